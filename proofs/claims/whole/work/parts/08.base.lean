/-! The base layer: the judgement zG (a frame over a world that is a list of cells), one row an instruction, proved out of the kit's rows. Written by wip/gen/mkbase.py. -/
/-- what a group of cells holds: ints, longs, arrays of ints, arrays of longs, each by the slot of its field -/
abbrev zSt : Type := (Nat → Int32) × (Nat → Int64) × (Nat → Nat → Int32) × (Nat → Nat → Int64)
def zup {α : Type} (f : Nat → α) (k : Nat) (v : α) : Nat → α := fun j => cond (Nat.beq j k) v (f j)
def zgi (σ : zSt) (k : Nat) : Int32 := σ.1 k
def zgl (σ : zSt) (k : Nat) : Int64 := σ.2.1 k
def zga (σ : zSt) (k : Nat) : Nat → Int32 := σ.2.2.1 k
def zgb (σ : zSt) (k : Nat) : Nat → Int64 := σ.2.2.2 k
def zsi (σ : zSt) (k : Nat) (v : Int32) : zSt := (zup σ.1 k v, σ.2.1, σ.2.2.1, σ.2.2.2)
def zsl (σ : zSt) (k : Nat) (v : Int64) : zSt := (σ.1, zup σ.2.1 k v, σ.2.2.1, σ.2.2.2)
def zsa (σ : zSt) (k : Nat) (f : Nat → Int32) : zSt := (σ.1, σ.2.1, zup σ.2.2.1 k f, σ.2.2.2)
def zsb (σ : zSt) (k : Nat) (f : Nat → Int64) : zSt := (σ.1, σ.2.1, σ.2.2.1, zup σ.2.2.2 k f)
/-- the place is inside -/
def zin (i : Int32) (n : Nat) : Bool := !(decide (i < 0) || decide (n ≤ i.toNatClampNeg))
theorem zin_of {i : Int32} {n : Nat} (h : zin i n = true) : vp_in i n := by
  unfold zin at h
  unfold vp_in
  simp only [Bool.not_eq_true', Bool.or_eq_false_iff, decide_eq_false_iff_not] at h
  exact fun q => q.elim h.1 h.2
/-- a value that a return or a store leaves as it is -/
def znar (ty : FieldType) (v : Int32) : Bool := match narrow ty (.int v), fits ty (.int v) with
  | .int w, b => decide (w = v) && b
  | _, _ => false
theorem znar_of {ty : FieldType} {v : Int32} (h : znar ty v = true) : narrow ty (.int v) = .int v ∧ fits ty (.int v) = true := by
  unfold znar at h
  cases hn : narrow ty (.int v) with
  | int w =>
    rw [hn] at h
    simp only [Bool.and_eq_true, decide_eq_true_eq] at h
    exact ⟨by rw [h.1], h.2⟩
  | _ => rw [hn] at h; cases h
def zfn (r : UInt32) : Bool := decide (r &&& 0x7fffffff ≤ 0x7f800000)
theorem zfn_of {r : UInt32} (h : zfn r = true) : vf_n32 r := by
  unfold zfn at h
  unfold vf_n32
  exact of_decide_eq_true h
def zlet {α β : Type} (x : α) (k : α → Option β) : Option β := k x
theorem zlet_of {α β : Type} {x : α} {k : α → Option β} {o : β} (h : zlet x k = some o) : ∃ v, v = x ∧ k v = some o := ⟨x, rfl, h⟩
theorem zbind_of {α β : Type} {x : Option α} {k : α → Option β} {o : β} (h : x.bind k = some o) : ∃ v, x = some v ∧ k v = some o := by
  cases x with
  | none => cases h
  | some v => exact ⟨v, rfl, h⟩
theorem zif_t {β : Type} {P : Prop} [Decidable P] {a b : Option β} {o : β} (h : (if P then a else b) = some o) (c : P) : a = some o := by rwa [if_pos c] at h
theorem zif_f {β : Type} {P : Prop} [Decidable P] {a b : Option β} {o : β} (h : (if P then a else b) = some o) (c : ¬ P) : b = some o := by rwa [if_neg c] at h
theorem zgd_of {β : Type} {b : Bool} {a : Option β} {o : β} (h : (if b = true then a else none) = some o) : b = true ∧ a = some o := by
  by_cases c : b = true
  · rw [if_pos c] at h; exact ⟨c, h⟩
  · rw [if_neg c] at h; cases h
theorem zno {β : Type} {o : β} {G : Prop} (h : (none : Option β) = some o) : G := by cases h
/-- the words of a method -/
def zws (y : MethodName) (b : ByteArray) (n : Nat) (r : Option FieldType) : List Cond := Cond.code y b n r :: zW
def zTY (T : Nat → ClassId) : List (ClassId × FieldType) := [(T 0, .char), (T 1, .int), (T 2, .long), (T 3, .boolean), (T 4, .object RX4), (T 5, .double), (T 6, .byte)]
/-- all that a walk stands on and that stays -/
abbrev zCtx : Type := Program × Launch × Env × Room × State × MethodId × Array Value × List Frame × Method × Code × va_G × (Nat → ClassId) × (Nat → Prop) × (State → Prop)
abbrev zcp (C : zCtx) : Program := C.1
abbrev zcl (C : zCtx) : Launch := C.2.1
abbrev zce (C : zCtx) : Env := C.2.2.1
abbrev zcR (C : zCtx) : Room := C.2.2.2.1
abbrev zcs (C : zCtx) : State := C.2.2.2.2.1
abbrev zcm (C : zCtx) : MethodId := C.2.2.2.2.2.1
abbrev zca (C : zCtx) : Array Value := C.2.2.2.2.2.2.1
abbrev zcb (C : zCtx) : List Frame := C.2.2.2.2.2.2.2.1
abbrev zcM (C : zCtx) : Method := C.2.2.2.2.2.2.2.2.1
abbrev zcc (C : zCtx) : Code := C.2.2.2.2.2.2.2.2.2.1
abbrev zcD (C : zCtx) : va_G := C.2.2.2.2.2.2.2.2.2.2.1
abbrev zcT (C : zCtx) : Nat → ClassId := C.2.2.2.2.2.2.2.2.2.2.2.1
abbrev zcA (C : zCtx) : Nat → Prop := C.2.2.2.2.2.2.2.2.2.2.2.2.1
abbrev zcQ (C : zCtx) : State → Prop := C.2.2.2.2.2.2.2.2.2.2.2.2.2
def zFx (C : zCtx) (cc : ByteArray) (nL : Nat) (own : String) (rm : Room) (ret : Option FieldType) : Prop :=
  (zcp C).tables.exec = Jvm.exec ∧ (zcc C).code = cc ∧ (zcc C).maxLocals = nL ∧ (zcs C).vm.findClass own = some (zcm C).cls ∧ (∀ w ∈ zW, w.before (zca C) (zcs C) = true) ∧ va_K (zcD C) vwCl (zTY (zcT C)) (zcs C) ∧ (∀ q : Nat, (zcs C).heap.size ≤ q → zcA C q) ∧ (zcM C).locks = false ∧ zcR C = rm ∧ (zcM C).sig.returnType = ret ∧ zEx (zcs C)
abbrev zWW (C : zCtx) (cells slots : Nat) (H : Heap) (locs : List Loc) (pc : Nat) (ls : Array Slot) (st : List Value) : Prop :=
  W (zcp C) (zcl C) (zce C) (zcR C) (zcs C) (zcm C) (zca C) (zcb C) (zcM C) (zcc C) H locs cells slots (zcQ C) (F0 (zcm C) pc ls st)
/-- the addresses of a group -/
def zad (w : va_W) : List Nat := w.map (·.1)
/-- a world is a list of groups of cells -/
def zGP (D : va_G) (gs : List va_W) (H : Heap) : Prop := ∀ (i : Nat) (w : va_W), gs[i]? = some w → va_P D vwCl w H
/-- all addresses are apart -/
def zGD (gs : List va_W) : Prop := (∀ (i : Nat) (w : va_W), gs[i]? = some w → va_D (fun _ => True) w) ∧ ∀ (i j : Nat) (w v : va_W), i ≠ j → gs[i]? = some w → gs[j]? = some v → ∀ x : Nat, x ∈ zad w → ¬ x ∈ zad v
/-- which cells a method may change: its groups', and those that it makes -/
def zA (gm : List va_W) (sz : Nat) : Nat → Prop := fun q => (∃ w ∈ gm, q ∈ zad w) ∨ sz ≤ q
/-- the machine, at pc with these locals and this stack, over any heap that holds the world gs, comes to its end; mp: the places of the groups that may be written -/
def zG (C : zCtx) (nL : Nat) (mp : List Nat) (cells slots : Nat) (gs : List va_W) (pc : Nat) (lv : List (Nat × Value)) (st : List Value) : Prop :=
  ∀ (H : Heap) (locs : List Loc) (ls : Array Slot), zGP (zcD C) gs H → zGD gs → (∀ k ∈ mp, ∀ w : va_W, gs[k]? = some w → ∀ x ∈ zad w, zcA C x) → va_S (zcA C) (zcs C).heap H locs → lv_has ls nL lv → zWW C cells slots H locs pc ls st
theorem zad_mem {w : va_W} {j a : Nat} {e : va_E} (h : w[j]? = some (a, e)) : a ∈ zad w := List.mem_map.mpr ⟨(a, e), List.mem_of_getElem? h, rfl⟩
theorem zad_set {w : va_W} {j a : Nat} {e0 e : va_E} (h : w[j]? = some (a, e0)) : zad (w.set j (a, e)) = zad w := by
  apply List.ext_getElem?
  intro i
  unfold zad
  rw [List.getElem?_map, List.getElem?_map]
  by_cases hij : j = i
  · subst hij
    have hlt : j < w.length := (List.getElem?_eq_some_iff.mp h).1
    rw [List.getElem?_set_self hlt, h]
    rfl
  · rw [List.getElem?_set_ne hij]
theorem zD_of {w v : va_W} (h : zad w = zad v) (hD : va_D (fun _ => True) w) : va_D (fun _ => True) v := by
  refine ⟨fun i j x y hi hj hxy => ?_, fun _ _ _ => trivial⟩
  have g : ∀ {k : Nat} {z : Nat × va_E}, v[k]? = some z → ∃ z0, w[k]? = some z0 ∧ z0.1 = z.1 := by
    intro k z hk
    have h1 : (zad v)[k]? = some z.1 := by unfold zad; rw [List.getElem?_map, hk]; rfl
    rw [← h] at h1
    unfold zad at h1
    rw [List.getElem?_map] at h1
    cases hw : w[k]? with
    | none => rw [hw] at h1; cases h1
    | some z0 => rw [hw] at h1; exact ⟨z0, rfl, Option.some.inj h1⟩
  obtain ⟨x0, h1, h2⟩ := g hi
  obtain ⟨y0, h3, h4⟩ := g hj
  exact hD.1 i j x0 y0 h1 h3 (by rw [h2, h4, hxy])
/-- one group changed, its addresses the same -/
theorem zset_at {gs : List va_W} {g i : Nat} {w w2 v : va_W} (hg : gs[g]? = some w) (h : (gs.set g w2)[i]? = some v) : (i = g ∧ v = w2) ∨ (i ≠ g ∧ gs[i]? = some v) := by
  by_cases hi : g = i
  · subst hi
    have hlt : g < gs.length := (List.getElem?_eq_some_iff.mp hg).1
    rw [List.getElem?_set_self hlt] at h
    exact Or.inl ⟨rfl, (Option.some.inj h).symm⟩
  · rw [List.getElem?_set_ne hi] at h
    exact Or.inr ⟨fun e => hi e.symm, h⟩
theorem zGD_set {gs : List va_W} {g : Nat} {w w2 : va_W} (hD : zGD gs) (hg : gs[g]? = some w) (ha : zad w2 = zad w) : zGD (gs.set g w2) := by
  refine ⟨fun i v hv => ?_, fun i j v u hij hv hu x hx => ?_⟩
  · rcases zset_at hg hv with ⟨rfl, rfl⟩ | ⟨-, h⟩
    · exact zD_of ha.symm (hD.1 _ _ hg)
    · exact hD.1 i v h
  · have key : ∀ {k : Nat} {t : va_W}, (gs.set g w2)[k]? = some t → ∃ t0, gs[k]? = some t0 ∧ zad t0 = zad t := by
      intro k t ht
      rcases zset_at hg ht with ⟨rfl, rfl⟩ | ⟨-, h⟩
      · exact ⟨w, hg, ha.symm⟩
      · exact ⟨t, h, rfl⟩
    obtain ⟨v0, h1, h2⟩ := key hv
    obtain ⟨u0, h3, h4⟩ := key hu
    rw [← h4]
    exact hD.2 i j v0 u0 hij h1 h3 x (by rw [h2]; exact hx)
theorem zGP_set {D : va_G} {gs : List va_W} {g j a : Nat} {w w2 : va_W} {e0 : va_E} {H H1 : Heap} (hP : zGP D gs H) (hD : zGD gs) (hg : gs[g]? = some w) (hj : w[j]? = some (a, e0)) (hP2 : va_P D vwCl w2 H1) (ho : ∀ q : Nat, q ≠ a → H1[q]? = H[q]?) : zGP D (gs.set g w2) H1 := by
  intro i v hv
  rcases zset_at hg hv with ⟨rfl, rfl⟩ | ⟨hne, h⟩
  · exact hP2
  · intro k q hk
    refine (hP i v h k q hk).kept (ho q.1 (fun e => ?_))
    exact hD.2 g i w v (fun e => hne e.symm) hg h a (zad_mem hj) (by rw [← e]; exact List.mem_map.mpr ⟨q, List.mem_of_getElem? hk, rfl⟩)
theorem zM_set {gs : List va_W} {g : Nat} {w w2 : va_W} {B : Nat → Prop} {mp : List Nat} (hg : gs[g]? = some w) (ha : zad w2 = zad w) (hM : ∀ k ∈ mp, ∀ v : va_W, gs[k]? = some v → ∀ x ∈ zad v, B x) : ∀ k ∈ mp, ∀ v : va_W, (gs.set g w2)[k]? = some v → ∀ x ∈ zad v, B x := by
  intro k hk v hv x hx
  rcases zset_at hg hv with ⟨rfl, rfl⟩ | ⟨-, h⟩
  · exact hM _ hk w hg x (by rw [← ha]; exact hx)
  · exact hM k hk v h x hx

section ZR
variable {C : zCtx} {cc : ByteArray} {nL : Nat} {own : String} {rm : Room} {ret : Option FieldType} {mp : List Nat} {cells slots : Nat} {ws ws2 : List va_W} {pc : Nat} {lv : List (Nat × Value)} {st : List Value}
theorem z_iload_n (X : zFx C cc nL own rm ret) {k : Fin 4} {x : Int32} (hd : decode cc pc = .ok (.iload_n k, 1)) (j : Nat) (hj : lv[j]? = some ((k : Nat), .int x)) (kk : zG C nL mp cells slots ws (pc + 1) lv (.int x :: st)) : zG C nL mp cells slots ws pc lv st := fun H locs ls h1 h2 h3 h4 hl => lv_iload_n X.1 X.2.1 hd rfl (lv_at hl j hj) (kk H locs ls h1 h2 h3 h4 hl)
theorem z_iload (X : zFx C cc nL own rm ret) {i : Nat} {x : Int32} (hd : decode cc pc = .ok (.iload i, 2)) (j : Nat) (hj : lv[j]? = some (i, .int x)) (kk : zG C nL mp cells slots ws (pc + 2) lv (.int x :: st)) : zG C nL mp cells slots ws pc lv st := fun H locs ls h1 h2 h3 h4 hl => lv_iload X.1 X.2.1 hd (lv_at hl j hj) (kk H locs ls h1 h2 h3 h4 hl)
theorem z_lload_n (X : zFx C cc nL own rm ret) {k : Fin 4} {x : Int64} (hd : decode cc pc = .ok (.lload_n k, 1)) (j : Nat) (hj : lv[j]? = some ((k : Nat), .long x)) (kk : zG C nL mp cells slots ws (pc + 1) lv (.long x :: st)) : zG C nL mp cells slots ws pc lv st := fun H locs ls h1 h2 h3 h4 hl => lv_lload_n X.1 X.2.1 hd rfl (lv_at hl j hj) (kk H locs ls h1 h2 h3 h4 hl)
theorem z_lload (X : zFx C cc nL own rm ret) {i : Nat} {x : Int64} (hd : decode cc pc = .ok (.lload i, 2)) (j : Nat) (hj : lv[j]? = some (i, .long x)) (kk : zG C nL mp cells slots ws (pc + 2) lv (.long x :: st)) : zG C nL mp cells slots ws pc lv st := fun H locs ls h1 h2 h3 h4 hl => lv_lload X.1 X.2.1 hd (lv_at hl j hj) (kk H locs ls h1 h2 h3 h4 hl)
theorem z_aload_n (X : zFx C cc nL own rm ret) {k : Fin 4} {x : Nat} (hd : decode cc pc = .ok (.aload_n k, 1)) (j : Nat) (hj : lv[j]? = some ((k : Nat), .ref x)) (kk : zG C nL mp cells slots ws (pc + 1) lv (.ref x :: st)) : zG C nL mp cells slots ws pc lv st := fun H locs ls h1 h2 h3 h4 hl => lv_aload_n X.1 X.2.1 hd rfl (lv_at hl j hj) (kk H locs ls h1 h2 h3 h4 hl)
theorem z_aload (X : zFx C cc nL own rm ret) {i : Nat} {x : Nat} (hd : decode cc pc = .ok (.aload i, 2)) (j : Nat) (hj : lv[j]? = some (i, .ref x)) (kk : zG C nL mp cells slots ws (pc + 2) lv (.ref x :: st)) : zG C nL mp cells slots ws pc lv st := fun H locs ls h1 h2 h3 h4 hl => lv_aload X.1 X.2.1 hd (lv_at hl j hj) (kk H locs ls h1 h2 h3 h4 hl)
theorem z_fload_n (X : zFx C cc nL own rm ret) {k : Fin 4} {x : UInt32} (hd : decode cc pc = .ok (.fload_n k, 1)) (j : Nat) (hj : lv[j]? = some ((k : Nat), .float x)) (kk : zG C nL mp cells slots ws (pc + 1) lv (.float x :: st)) : zG C nL mp cells slots ws pc lv st := fun H locs ls h1 h2 h3 h4 hl => lv_fload_n X.1 X.2.1 hd rfl (lv_at hl j hj) (kk H locs ls h1 h2 h3 h4 hl)
theorem z_fload (X : zFx C cc nL own rm ret) {i : Nat} {x : UInt32} (hd : decode cc pc = .ok (.fload i, 2)) (j : Nat) (hj : lv[j]? = some (i, .float x)) (kk : zG C nL mp cells slots ws (pc + 2) lv (.float x :: st)) : zG C nL mp cells slots ws pc lv st := fun H locs ls h1 h2 h3 h4 hl => lv_fload X.1 X.2.1 hd (lv_at hl j hj) (kk H locs ls h1 h2 h3 h4 hl)
theorem z_istore_n (X : zFx C cc nL own rm ret) {k : Fin 4} {i : Nat} {x : Int32} {lv2 : List (Nat × Value)} (hd : decode cc pc = .ok (.istore_n k, 1)) (hi : (k : Nat) = i) (hn : i < nL) (hl2 : (i, Value.int x) :: lv.filter (fun q => !(q.1 == i) && !(q.1 + 1 == i && q.2.category == 2)) = lv2) (kk : zG C nL mp cells slots ws (pc + 1) lv2 st) : zG C nL mp cells slots ws pc lv (.int x :: st) := fun H locs ls h1 h2 h3 h4 hl => lv_istore_n X.1 X.2.1 hd hi hl hn hl2 (fun ls hl => kk H locs ls h1 h2 h3 h4 hl)
theorem z_istore (X : zFx C cc nL own rm ret) {i : Nat} {x : Int32} {lv2 : List (Nat × Value)} (hd : decode cc pc = .ok (.istore i, 2)) (hn : i < nL) (hl2 : (i, Value.int x) :: lv.filter (fun q => !(q.1 == i) && !(q.1 + 1 == i && q.2.category == 2)) = lv2) (kk : zG C nL mp cells slots ws (pc + 2) lv2 st) : zG C nL mp cells slots ws pc lv (.int x :: st) := fun H locs ls h1 h2 h3 h4 hl => lv_istore X.1 X.2.1 hd hl hn hl2 (fun ls hl => kk H locs ls h1 h2 h3 h4 hl)
theorem z_lstore_n (X : zFx C cc nL own rm ret) {k : Fin 4} {i : Nat} {x : Int64} {lv2 : List (Nat × Value)} (hd : decode cc pc = .ok (.lstore_n k, 1)) (hi : (k : Nat) = i) (hn : i + 1 < nL) (hl2 : (i, Value.long x) :: lv.filter (fun q => !(q.1 == i) && (!(q.1 == i + 1) && !(q.1 + 1 == i && q.2.category == 2))) = lv2) (kk : zG C nL mp cells slots ws (pc + 1) lv2 st) : zG C nL mp cells slots ws pc lv (.long x :: st) := fun H locs ls h1 h2 h3 h4 hl => lv_lstore_n X.1 X.2.1 hd hi hl hn hl2 (fun ls hl => kk H locs ls h1 h2 h3 h4 hl)
theorem z_lstore (X : zFx C cc nL own rm ret) {i : Nat} {x : Int64} {lv2 : List (Nat × Value)} (hd : decode cc pc = .ok (.lstore i, 2)) (hn : i + 1 < nL) (hl2 : (i, Value.long x) :: lv.filter (fun q => !(q.1 == i) && (!(q.1 == i + 1) && !(q.1 + 1 == i && q.2.category == 2))) = lv2) (kk : zG C nL mp cells slots ws (pc + 2) lv2 st) : zG C nL mp cells slots ws pc lv (.long x :: st) := fun H locs ls h1 h2 h3 h4 hl => lv_lstore X.1 X.2.1 hd hl hn hl2 (fun ls hl => kk H locs ls h1 h2 h3 h4 hl)
theorem z_astore_n (X : zFx C cc nL own rm ret) {k : Fin 4} {i : Nat} {x : Nat} {lv2 : List (Nat × Value)} (hd : decode cc pc = .ok (.astore_n k, 1)) (hi : (k : Nat) = i) (hn : i < nL) (hl2 : (i, Value.ref x) :: lv.filter (fun q => !(q.1 == i) && !(q.1 + 1 == i && q.2.category == 2)) = lv2) (kk : zG C nL mp cells slots ws (pc + 1) lv2 st) : zG C nL mp cells slots ws pc lv (.ref x :: st) := fun H locs ls h1 h2 h3 h4 hl => lv_astore_n X.1 X.2.1 hd hi hl hn hl2 (fun ls hl => kk H locs ls h1 h2 h3 h4 hl)
theorem z_astore (X : zFx C cc nL own rm ret) {i : Nat} {x : Nat} {lv2 : List (Nat × Value)} (hd : decode cc pc = .ok (.astore i, 2)) (hn : i < nL) (hl2 : (i, Value.ref x) :: lv.filter (fun q => !(q.1 == i) && !(q.1 + 1 == i && q.2.category == 2)) = lv2) (kk : zG C nL mp cells slots ws (pc + 2) lv2 st) : zG C nL mp cells slots ws pc lv (.ref x :: st) := fun H locs ls h1 h2 h3 h4 hl => lv_astore X.1 X.2.1 hd hl hn hl2 (fun ls hl => kk H locs ls h1 h2 h3 h4 hl)
theorem z_fstore (X : zFx C cc nL own rm ret) {i : Nat} {x : UInt32} {lv2 : List (Nat × Value)} (hd : decode cc pc = .ok (.fstore i, 2)) (hn : i < nL) (hl2 : (i, Value.float x) :: lv.filter (fun q => !(q.1 == i) && !(q.1 + 1 == i && q.2.category == 2)) = lv2) (kk : zG C nL mp cells slots ws (pc + 2) lv2 st) : zG C nL mp cells slots ws pc lv (.float x :: st) := fun H locs ls h1 h2 h3 h4 hl => lv_fstore X.1 X.2.1 hd hl hn hl2 (fun ls hl => kk H locs ls h1 h2 h3 h4 hl)
theorem z_iinc (X : zFx C cc nL own rm ret) {i k : Nat} {n : Int} {x v : Int32} {lv2 : List (Nat × Value)} (hd : decode cc pc = .ok (.iinc i n, 3)) (hk : lv[k]? = some (i, .int x)) (hv : x + Int32.ofInt n = v) (hn : i < nL) (hl2 : (i, Value.int v) :: lv.filter (fun q => !(q.1 == i) && !(q.1 + 1 == i && q.2.category == 2)) = lv2) (kk : zG C nL mp cells slots ws (pc + 3) lv2 st) : zG C nL mp cells slots ws pc lv st := fun H locs ls h1 h2 h3 h4 hl => lv_iinc X.1 X.2.1 hd hl hk hv hn hl2 (fun ls hl => kk H locs ls h1 h2 h3 h4 hl)
theorem z_iconst (X : zFx C cc nL own rm ret) {n : Int} {v : Int32} (hd : decode cc pc = .ok (.iconst n, 1)) (hv : Int32.ofInt n = v) (kk : zG C nL mp cells slots ws (pc + 1) lv (.int v :: st)) : zG C nL mp cells slots ws pc lv st := fun H locs ls h1 h2 h3 h4 hl => lv_iconst X.1 X.2.1 hd hv (kk H locs ls h1 h2 h3 h4 hl)
theorem z_lconst (X : zFx C cc nL own rm ret) {n : Fin 2} {v : Int64} (hd : decode cc pc = .ok (.lconst n, 1)) (hv : Int64.ofNat (n : Nat) = v) (kk : zG C nL mp cells slots ws (pc + 1) lv (.long v :: st)) : zG C nL mp cells slots ws pc lv st := fun H locs ls h1 h2 h3 h4 hl => lv_lconst X.1 X.2.1 hd hv (kk H locs ls h1 h2 h3 h4 hl)
theorem z_bipush (X : zFx C cc nL own rm ret) {n : Int} {v : Int32} (hd : decode cc pc = .ok (.bipush n, 2)) (hv : (Int8.ofInt n).toInt32 = v) (kk : zG C nL mp cells slots ws (pc + 2) lv (.int v :: st)) : zG C nL mp cells slots ws pc lv st := fun H locs ls h1 h2 h3 h4 hl => lv_bipush X.1 X.2.1 hd hv (kk H locs ls h1 h2 h3 h4 hl)
theorem z_sipush (X : zFx C cc nL own rm ret) {n : Int} {v : Int32} (hd : decode cc pc = .ok (.sipush n, 3)) (hv : (Int16.ofInt n).toInt32 = v) (kk : zG C nL mp cells slots ws (pc + 3) lv (.int v :: st)) : zG C nL mp cells slots ws pc lv st := fun H locs ls h1 h2 h3 h4 hl => lv_sipush X.1 X.2.1 hd hv (kk H locs ls h1 h2 h3 h4 hl)
theorem z_ldc (X : zFx C cc nL own rm ret) {index : Nat} {v : Int32} (hw : Cond.constant own index v ∈ zW) (hd : decode cc pc = .ok (.ldc index, 2)) (kk : zG C nL mp cells slots ws (pc + 2) lv (.int v :: st)) : zG C nL mp cells slots ws pc lv st := fun H locs ls h1 h2 h3 h4 hl => lv_ldc X.1 X.2.1 X.2.2.2.1 (X.2.2.2.2.1 _ hw) hd (kk H locs ls h1 h2 h3 h4 hl)
theorem z_ldc2 (X : zFx C cc nL own rm ret) {index : Nat} {v : Int64} (hw : Cond.constantLong own index v ∈ zW) (hd : decode cc pc = .ok (.ldc2_w index, 3)) (kk : zG C nL mp cells slots ws (pc + 3) lv (.long v :: st)) : zG C nL mp cells slots ws pc lv st := fun H locs ls h1 h2 h3 h4 hl => lv_ldc2 X.1 X.2.1 X.2.2.2.1 (X.2.2.2.2.1 _ hw) hd (kk H locs ls h1 h2 h3 h4 hl)
theorem z_iadd (X : zFx C cc nL own rm ret) {x y : Int32} (hd : decode cc pc = .ok (.iadd, 1)) (kk : zG C nL mp cells slots ws (pc + 1) lv (.int (x + y) :: st)) : zG C nL mp cells slots ws pc lv (.int y :: .int x :: st) := fun H locs ls h1 h2 h3 h4 hl => lv_iadd X.1 X.2.1 hd (kk H locs ls h1 h2 h3 h4 hl)
theorem z_isub (X : zFx C cc nL own rm ret) {x y : Int32} (hd : decode cc pc = .ok (.isub, 1)) (kk : zG C nL mp cells slots ws (pc + 1) lv (.int (x - y) :: st)) : zG C nL mp cells slots ws pc lv (.int y :: .int x :: st) := fun H locs ls h1 h2 h3 h4 hl => lv_isub X.1 X.2.1 hd (kk H locs ls h1 h2 h3 h4 hl)
theorem z_imul (X : zFx C cc nL own rm ret) {x y : Int32} (hd : decode cc pc = .ok (.imul, 1)) (kk : zG C nL mp cells slots ws (pc + 1) lv (.int (x * y) :: st)) : zG C nL mp cells slots ws pc lv (.int y :: .int x :: st) := fun H locs ls h1 h2 h3 h4 hl => lv_imul X.1 X.2.1 hd (kk H locs ls h1 h2 h3 h4 hl)
theorem z_iand (X : zFx C cc nL own rm ret) {x y : Int32} (hd : decode cc pc = .ok (.iand, 1)) (kk : zG C nL mp cells slots ws (pc + 1) lv (.int (x &&& y) :: st)) : zG C nL mp cells slots ws pc lv (.int y :: .int x :: st) := fun H locs ls h1 h2 h3 h4 hl => lv_iand X.1 X.2.1 hd (kk H locs ls h1 h2 h3 h4 hl)
theorem z_ior (X : zFx C cc nL own rm ret) {x y : Int32} (hd : decode cc pc = .ok (.ior, 1)) (kk : zG C nL mp cells slots ws (pc + 1) lv (.int (x ||| y) :: st)) : zG C nL mp cells slots ws pc lv (.int y :: .int x :: st) := fun H locs ls h1 h2 h3 h4 hl => lv_ior X.1 X.2.1 hd (kk H locs ls h1 h2 h3 h4 hl)
theorem z_ishl (X : zFx C cc nL own rm ret) {x y : Int32} (hd : decode cc pc = .ok (.ishl, 1)) (kk : zG C nL mp cells slots ws (pc + 1) lv (.int (x <<< (y &&& 31)) :: st)) : zG C nL mp cells slots ws pc lv (.int y :: .int x :: st) := fun H locs ls h1 h2 h3 h4 hl => lv_ishl X.1 X.2.1 hd (kk H locs ls h1 h2 h3 h4 hl)
theorem z_ishr (X : zFx C cc nL own rm ret) {x y : Int32} (hd : decode cc pc = .ok (.ishr, 1)) (kk : zG C nL mp cells slots ws (pc + 1) lv (.int (x >>> (y &&& 31)) :: st)) : zG C nL mp cells slots ws pc lv (.int y :: .int x :: st) := fun H locs ls h1 h2 h3 h4 hl => lv_ishr X.1 X.2.1 hd (kk H locs ls h1 h2 h3 h4 hl)
theorem z_idiv (X : zFx C cc nL own rm ret) {x y : Int32} (hd : decode cc pc = .ok (.idiv, 1)) (hne : ¬ y = 0) (kk : zG C nL mp cells slots ws (pc + 1) lv (.int (x / y) :: st)) : zG C nL mp cells slots ws pc lv (.int y :: .int x :: st) := fun H locs ls h1 h2 h3 h4 hl => lv_idiv X.1 X.2.1 hd hne (kk H locs ls h1 h2 h3 h4 hl)
theorem z_irem (X : zFx C cc nL own rm ret) {x y : Int32} (hd : decode cc pc = .ok (.irem, 1)) (hne : ¬ y = 0) (kk : zG C nL mp cells slots ws (pc + 1) lv (.int (x - x / y * y) :: st)) : zG C nL mp cells slots ws pc lv (.int y :: .int x :: st) := fun H locs ls h1 h2 h3 h4 hl => lv_irem X.1 X.2.1 hd hne (kk H locs ls h1 h2 h3 h4 hl)
theorem z_ineg (X : zFx C cc nL own rm ret) {x : Int32} (hd : decode cc pc = .ok (.ineg, 1)) (kk : zG C nL mp cells slots ws (pc + 1) lv (.int (-x) :: st)) : zG C nL mp cells slots ws pc lv (.int x :: st) := fun H locs ls h1 h2 h3 h4 hl => lv_ineg X.1 X.2.1 hd (kk H locs ls h1 h2 h3 h4 hl)
theorem z_ladd (X : zFx C cc nL own rm ret) {x y : Int64} (hd : decode cc pc = .ok (.ladd, 1)) (kk : zG C nL mp cells slots ws (pc + 1) lv (.long (x + y) :: st)) : zG C nL mp cells slots ws pc lv (.long y :: .long x :: st) := fun H locs ls h1 h2 h3 h4 hl => lv_ladd X.1 X.2.1 hd (kk H locs ls h1 h2 h3 h4 hl)
theorem z_lsub (X : zFx C cc nL own rm ret) {x y : Int64} (hd : decode cc pc = .ok (.lsub, 1)) (kk : zG C nL mp cells slots ws (pc + 1) lv (.long (x - y) :: st)) : zG C nL mp cells slots ws pc lv (.long y :: .long x :: st) := fun H locs ls h1 h2 h3 h4 hl => lv_lsub X.1 X.2.1 hd (kk H locs ls h1 h2 h3 h4 hl)
theorem z_lmul (X : zFx C cc nL own rm ret) {x y : Int64} (hd : decode cc pc = .ok (.lmul, 1)) (kk : zG C nL mp cells slots ws (pc + 1) lv (.long (x * y) :: st)) : zG C nL mp cells slots ws pc lv (.long y :: .long x :: st) := fun H locs ls h1 h2 h3 h4 hl => lv_lmul X.1 X.2.1 hd (kk H locs ls h1 h2 h3 h4 hl)
theorem z_ldiv (X : zFx C cc nL own rm ret) {x y : Int64} (hd : decode cc pc = .ok (.ldiv, 1)) (hne : ¬ y = 0) (kk : zG C nL mp cells slots ws (pc + 1) lv (.long (x / y) :: st)) : zG C nL mp cells slots ws pc lv (.long y :: .long x :: st) := fun H locs ls h1 h2 h3 h4 hl => lv_ldiv X.1 X.2.1 hd hne (kk H locs ls h1 h2 h3 h4 hl)
theorem z_lrem (X : zFx C cc nL own rm ret) {x y : Int64} (hd : decode cc pc = .ok (.lrem, 1)) (hne : ¬ y = 0) (kk : zG C nL mp cells slots ws (pc + 1) lv (.long (x - x / y * y) :: st)) : zG C nL mp cells slots ws pc lv (.long y :: .long x :: st) := fun H locs ls h1 h2 h3 h4 hl => lv_lrem X.1 X.2.1 hd hne (kk H locs ls h1 h2 h3 h4 hl)
theorem z_lneg (X : zFx C cc nL own rm ret) {x : Int64} (hd : decode cc pc = .ok (.lneg, 1)) (kk : zG C nL mp cells slots ws (pc + 1) lv (.long (-x) :: st)) : zG C nL mp cells slots ws pc lv (.long x :: st) := fun H locs ls h1 h2 h3 h4 hl => lv_lneg X.1 X.2.1 hd (kk H locs ls h1 h2 h3 h4 hl)
theorem z_i2l (X : zFx C cc nL own rm ret) {x : Int32} (hd : decode cc pc = .ok (.i2l, 1)) (kk : zG C nL mp cells slots ws (pc + 1) lv (.long x.toInt64 :: st)) : zG C nL mp cells slots ws pc lv (.int x :: st) := fun H locs ls h1 h2 h3 h4 hl => lv_i2l X.1 X.2.1 hd rfl (kk H locs ls h1 h2 h3 h4 hl)
theorem z_l2i (X : zFx C cc nL own rm ret) {x : Int64} (hd : decode cc pc = .ok (.l2i, 1)) (kk : zG C nL mp cells slots ws (pc + 1) lv (.int x.toInt32 :: st)) : zG C nL mp cells slots ws pc lv (.long x :: st) := fun H locs ls h1 h2 h3 h4 hl => lv_l2i X.1 X.2.1 hd rfl (kk H locs ls h1 h2 h3 h4 hl)
theorem z_i2c (X : zFx C cc nL own rm ret) {x : Int32} (hd : decode cc pc = .ok (.i2c, 1)) (kk : zG C nL mp cells slots ws (pc + 1) lv (.int (x.toUInt32 % 65536).toInt32 :: st)) : zG C nL mp cells slots ws pc lv (.int x :: st) := fun H locs ls h1 h2 h3 h4 hl => lv_i2c X.1 X.2.1 hd rfl (kk H locs ls h1 h2 h3 h4 hl)
theorem z_dup (X : zFx C cc nL own rm ret) {va : Value} (hd : decode cc pc = .ok (.dup, 1)) (hva : va.category = 1) (kk : zG C nL mp cells slots ws (pc + 1) lv (va :: va :: st)) : zG C nL mp cells slots ws pc lv (va :: st) := fun H locs ls h1 h2 h3 h4 hl => lv_dup X.1 X.2.1 hd hva (kk H locs ls h1 h2 h3 h4 hl)
theorem z_pop (X : zFx C cc nL own rm ret) {va : Value} (hd : decode cc pc = .ok (.pop, 1)) (hva : va.category = 1) (kk : zG C nL mp cells slots ws (pc + 1) lv st) : zG C nL mp cells slots ws pc lv (va :: st) := fun H locs ls h1 h2 h3 h4 hl => lv_pop X.1 X.2.1 hd hva (kk H locs ls h1 h2 h3 h4 hl)
theorem z_dup2 (X : zFx C cc nL own rm ret) {va vb : Value} (hd : decode cc pc = .ok (.dup2, 1)) (hva : va.category = 1) (hvb : vb.category = 1) (kk : zG C nL mp cells slots ws (pc + 1) lv (va :: vb :: va :: vb :: st)) : zG C nL mp cells slots ws pc lv (va :: vb :: st) := fun H locs ls h1 h2 h3 h4 hl => lv_dup2_11 X.1 X.2.1 hd hva hvb (kk H locs ls h1 h2 h3 h4 hl)
theorem z_goto (X : zFx C cc nL own rm ret) {off : Int} {tgt : Nat} (hd : decode cc pc = .ok (.goto off, 3)) (ht : (pc : Int) + off = (tgt : Int)) (kk : zG C nL mp cells slots ws tgt lv st) : zG C nL mp cells slots ws pc lv st := fun H locs ls h1 h2 h3 h4 hl => lv_goto X.1 X.2.1 hd ht (kk H locs ls h1 h2 h3 h4 hl)
theorem z_ifnonnull (X : zFx C cc nL own rm ret) {x : Nat} {off : Int} {tgt : Nat} (hd : decode cc pc = .ok (.ifnonnull off, 3)) (ht : (pc : Int) + off = (tgt : Int)) (kk : zG C nL mp cells slots ws tgt lv st) : zG C nL mp cells slots ws pc lv (.ref x :: st) := fun H locs ls h1 h2 h3 h4 hl => lv_ifnonnull X.1 X.2.1 hd ht (kk H locs ls h1 h2 h3 h4 hl)
theorem z_null (X : zFx C cc nL own rm ret) (hd : decode cc pc = .ok (.aconst_null, 1)) (kk : zG C nL mp cells slots ws (pc + 1) lv (.null :: st)) : zG C nL mp cells slots ws pc lv st := fun H locs ls h1 h2 h3 h4 hl => lv_null X.1 X.2.1 hd (kk H locs ls h1 h2 h3 h4 hl)
theorem z_i2f (X : zFx C cc nL own rm ret) {x : Int32} (hd : decode cc pc = .ok (.i2f, 1)) (kk : zG C nL mp cells slots ws (pc + 1) lv (.float (FP.i2f x) :: st)) : zG C nL mp cells slots ws pc lv (.int x :: st) := fun H locs ls h1 h2 h3 h4 hl => lv_i2f X.1 X.2.1 hd (kk H locs ls h1 h2 h3 h4 hl)
theorem z_fdiv (X : zFx C cc nL own rm ret) {x y : UInt32} (hd : decode cc pc = .ok (.fdiv, 1)) (hne : vf_n32 (FP.fdiv x y)) (kk : zG C nL mp cells slots ws (pc + 1) lv (.float (FP.fdiv x y) :: st)) : zG C nL mp cells slots ws pc lv (.float y :: .float x :: st) := fun H locs ls h1 h2 h3 h4 hl => lv_fdiv X.1 X.2.1 hd hne (kk H locs ls h1 h2 h3 h4 hl)
theorem z_fconst0 (X : zFx C cc nL own rm ret) (hd : decode cc pc = .ok (.fconst 0, 1)) (kk : zG C nL mp cells slots ws (pc + 1) lv (.float 0 :: st)) : zG C nL mp cells slots ws pc lv st := fun H locs ls h1 h2 h3 h4 hl => lv_fconst0 X.1 X.2.1 hd (kk H locs ls h1 h2 h3 h4 hl)
theorem z_icmp_eq (X : zFx C cc nL own rm ret) {x y : Int32} {off : Int} {tgt : Nat} (hd : decode cc pc = .ok (.if_icmp .eq off, 3)) (ht : (pc : Int) + off = (tgt : Int)) (kt : x = y → zG C nL mp cells slots ws tgt lv st) (kf : ¬ x = y → zG C nL mp cells slots ws (pc + 3) lv st) : zG C nL mp cells slots ws pc lv (.int y :: .int x :: st) := fun H locs ls h1 h2 h3 h4 hl => lv_icmp_eq X.1 X.2.1 hd ht (fun h => kt h H locs ls h1 h2 h3 h4 hl) (fun h => kf h H locs ls h1 h2 h3 h4 hl)
theorem z_if_eq (X : zFx C cc nL own rm ret) {x : Int32} {off : Int} {tgt : Nat} (hd : decode cc pc = .ok (.ifCond .eq off, 3)) (ht : (pc : Int) + off = (tgt : Int)) (kt : x = 0 → zG C nL mp cells slots ws tgt lv st) (kf : ¬ x = 0 → zG C nL mp cells slots ws (pc + 3) lv st) : zG C nL mp cells slots ws pc lv (.int x :: st) := fun H locs ls h1 h2 h3 h4 hl => lv_if_eq X.1 X.2.1 hd ht (fun h => kt h H locs ls h1 h2 h3 h4 hl) (fun h => kf h H locs ls h1 h2 h3 h4 hl)
theorem z_icmp_ne (X : zFx C cc nL own rm ret) {x y : Int32} {off : Int} {tgt : Nat} (hd : decode cc pc = .ok (.if_icmp .ne off, 3)) (ht : (pc : Int) + off = (tgt : Int)) (kt : ¬ x = y → zG C nL mp cells slots ws tgt lv st) (kf : x = y → zG C nL mp cells slots ws (pc + 3) lv st) : zG C nL mp cells slots ws pc lv (.int y :: .int x :: st) := fun H locs ls h1 h2 h3 h4 hl => lv_icmp_ne X.1 X.2.1 hd ht (fun h => kt h H locs ls h1 h2 h3 h4 hl) (fun h => kf h H locs ls h1 h2 h3 h4 hl)
theorem z_if_ne (X : zFx C cc nL own rm ret) {x : Int32} {off : Int} {tgt : Nat} (hd : decode cc pc = .ok (.ifCond .ne off, 3)) (ht : (pc : Int) + off = (tgt : Int)) (kt : ¬ x = 0 → zG C nL mp cells slots ws tgt lv st) (kf : x = 0 → zG C nL mp cells slots ws (pc + 3) lv st) : zG C nL mp cells slots ws pc lv (.int x :: st) := fun H locs ls h1 h2 h3 h4 hl => lv_if_ne X.1 X.2.1 hd ht (fun h => kt h H locs ls h1 h2 h3 h4 hl) (fun h => kf h H locs ls h1 h2 h3 h4 hl)
theorem z_icmp_lt (X : zFx C cc nL own rm ret) {x y : Int32} {off : Int} {tgt : Nat} (hd : decode cc pc = .ok (.if_icmp .lt off, 3)) (ht : (pc : Int) + off = (tgt : Int)) (kt : x < y → zG C nL mp cells slots ws tgt lv st) (kf : ¬ x < y → zG C nL mp cells slots ws (pc + 3) lv st) : zG C nL mp cells slots ws pc lv (.int y :: .int x :: st) := fun H locs ls h1 h2 h3 h4 hl => lv_icmp_lt X.1 X.2.1 hd ht (fun h => kt h H locs ls h1 h2 h3 h4 hl) (fun h => kf h H locs ls h1 h2 h3 h4 hl)
theorem z_if_lt (X : zFx C cc nL own rm ret) {x : Int32} {off : Int} {tgt : Nat} (hd : decode cc pc = .ok (.ifCond .lt off, 3)) (ht : (pc : Int) + off = (tgt : Int)) (kt : x < 0 → zG C nL mp cells slots ws tgt lv st) (kf : ¬ x < 0 → zG C nL mp cells slots ws (pc + 3) lv st) : zG C nL mp cells slots ws pc lv (.int x :: st) := fun H locs ls h1 h2 h3 h4 hl => lv_if_lt X.1 X.2.1 hd ht (fun h => kt h H locs ls h1 h2 h3 h4 hl) (fun h => kf h H locs ls h1 h2 h3 h4 hl)
theorem z_icmp_ge (X : zFx C cc nL own rm ret) {x y : Int32} {off : Int} {tgt : Nat} (hd : decode cc pc = .ok (.if_icmp .ge off, 3)) (ht : (pc : Int) + off = (tgt : Int)) (kt : y ≤ x → zG C nL mp cells slots ws tgt lv st) (kf : ¬ y ≤ x → zG C nL mp cells slots ws (pc + 3) lv st) : zG C nL mp cells slots ws pc lv (.int y :: .int x :: st) := fun H locs ls h1 h2 h3 h4 hl => lv_icmp_ge X.1 X.2.1 hd ht (fun h => kt h H locs ls h1 h2 h3 h4 hl) (fun h => kf h H locs ls h1 h2 h3 h4 hl)
theorem z_if_ge (X : zFx C cc nL own rm ret) {x : Int32} {off : Int} {tgt : Nat} (hd : decode cc pc = .ok (.ifCond .ge off, 3)) (ht : (pc : Int) + off = (tgt : Int)) (kt : 0 ≤ x → zG C nL mp cells slots ws tgt lv st) (kf : ¬ 0 ≤ x → zG C nL mp cells slots ws (pc + 3) lv st) : zG C nL mp cells slots ws pc lv (.int x :: st) := fun H locs ls h1 h2 h3 h4 hl => lv_if_ge X.1 X.2.1 hd ht (fun h => kt h H locs ls h1 h2 h3 h4 hl) (fun h => kf h H locs ls h1 h2 h3 h4 hl)
theorem z_icmp_gt (X : zFx C cc nL own rm ret) {x y : Int32} {off : Int} {tgt : Nat} (hd : decode cc pc = .ok (.if_icmp .gt off, 3)) (ht : (pc : Int) + off = (tgt : Int)) (kt : y < x → zG C nL mp cells slots ws tgt lv st) (kf : ¬ y < x → zG C nL mp cells slots ws (pc + 3) lv st) : zG C nL mp cells slots ws pc lv (.int y :: .int x :: st) := fun H locs ls h1 h2 h3 h4 hl => lv_icmp_gt X.1 X.2.1 hd ht (fun h => kt h H locs ls h1 h2 h3 h4 hl) (fun h => kf h H locs ls h1 h2 h3 h4 hl)
theorem z_if_gt (X : zFx C cc nL own rm ret) {x : Int32} {off : Int} {tgt : Nat} (hd : decode cc pc = .ok (.ifCond .gt off, 3)) (ht : (pc : Int) + off = (tgt : Int)) (kt : 0 < x → zG C nL mp cells slots ws tgt lv st) (kf : ¬ 0 < x → zG C nL mp cells slots ws (pc + 3) lv st) : zG C nL mp cells slots ws pc lv (.int x :: st) := fun H locs ls h1 h2 h3 h4 hl => lv_if_gt X.1 X.2.1 hd ht (fun h => kt h H locs ls h1 h2 h3 h4 hl) (fun h => kf h H locs ls h1 h2 h3 h4 hl)
theorem z_icmp_le (X : zFx C cc nL own rm ret) {x y : Int32} {off : Int} {tgt : Nat} (hd : decode cc pc = .ok (.if_icmp .le off, 3)) (ht : (pc : Int) + off = (tgt : Int)) (kt : x ≤ y → zG C nL mp cells slots ws tgt lv st) (kf : ¬ x ≤ y → zG C nL mp cells slots ws (pc + 3) lv st) : zG C nL mp cells slots ws pc lv (.int y :: .int x :: st) := fun H locs ls h1 h2 h3 h4 hl => lv_icmp_le X.1 X.2.1 hd ht (fun h => kt h H locs ls h1 h2 h3 h4 hl) (fun h => kf h H locs ls h1 h2 h3 h4 hl)
theorem z_if_le (X : zFx C cc nL own rm ret) {x : Int32} {off : Int} {tgt : Nat} (hd : decode cc pc = .ok (.ifCond .le off, 3)) (ht : (pc : Int) + off = (tgt : Int)) (kt : x ≤ 0 → zG C nL mp cells slots ws tgt lv st) (kf : ¬ x ≤ 0 → zG C nL mp cells slots ws (pc + 3) lv st) : zG C nL mp cells slots ws pc lv (.int x :: st) := fun H locs ls h1 h2 h3 h4 hl => lv_if_le X.1 X.2.1 hd ht (fun h => kt h H locs ls h1 h2 h3 h4 hl) (fun h => kf h H locs ls h1 h2 h3 h4 hl)
theorem z_lcmp_eq (X : zFx C cc nL own rm ret) {x y : Int64} {off : Int} {tgt : Nat} (hd0 : decode cc pc = .ok (.lcmp, 1)) (hd : decode cc (pc + 1) = .ok (.ifCond .eq off, 3)) (ht : ((pc + 1 : Nat) : Int) + off = (tgt : Int)) (kt : x = y → zG C nL mp cells slots ws tgt lv st) (kf : ¬ x = y → zG C nL mp cells slots ws (pc + 1 + 3) lv st) : zG C nL mp cells slots ws pc lv (.long y :: .long x :: st) := fun H locs ls h1 h2 h3 h4 hl => W.lcmp X.1 X.2.1 hd0 (lv_if_eq X.1 X.2.1 hd ht (fun h => kt ((lg_cmp_eq x y).mp h) H locs ls h1 h2 h3 h4 hl) (fun h => kf (fun h9 => h ((lg_cmp_eq x y).mpr h9)) H locs ls h1 h2 h3 h4 hl))
theorem z_lcmp_ne (X : zFx C cc nL own rm ret) {x y : Int64} {off : Int} {tgt : Nat} (hd0 : decode cc pc = .ok (.lcmp, 1)) (hd : decode cc (pc + 1) = .ok (.ifCond .ne off, 3)) (ht : ((pc + 1 : Nat) : Int) + off = (tgt : Int)) (kt : ¬ x = y → zG C nL mp cells slots ws tgt lv st) (kf : x = y → zG C nL mp cells slots ws (pc + 1 + 3) lv st) : zG C nL mp cells slots ws pc lv (.long y :: .long x :: st) := fun H locs ls h1 h2 h3 h4 hl => W.lcmp X.1 X.2.1 hd0 (lv_if_ne X.1 X.2.1 hd ht (fun h => kt (fun h9 => h ((lg_cmp_eq x y).mpr h9)) H locs ls h1 h2 h3 h4 hl) (fun h => kf ((lg_cmp_eq x y).mp h) H locs ls h1 h2 h3 h4 hl))
theorem z_lcmp_lt (X : zFx C cc nL own rm ret) {x y : Int64} {off : Int} {tgt : Nat} (hd0 : decode cc pc = .ok (.lcmp, 1)) (hd : decode cc (pc + 1) = .ok (.ifCond .lt off, 3)) (ht : ((pc + 1 : Nat) : Int) + off = (tgt : Int)) (kt : x < y → zG C nL mp cells slots ws tgt lv st) (kf : ¬ x < y → zG C nL mp cells slots ws (pc + 1 + 3) lv st) : zG C nL mp cells slots ws pc lv (.long y :: .long x :: st) := fun H locs ls h1 h2 h3 h4 hl => W.lcmp X.1 X.2.1 hd0 (lv_if_lt X.1 X.2.1 hd ht (fun h => kt ((lg_cmp_lt x y).mp h) H locs ls h1 h2 h3 h4 hl) (fun h => kf (fun h9 => h ((lg_cmp_lt x y).mpr h9)) H locs ls h1 h2 h3 h4 hl))
theorem z_lcmp_ge (X : zFx C cc nL own rm ret) {x y : Int64} {off : Int} {tgt : Nat} (hd0 : decode cc pc = .ok (.lcmp, 1)) (hd : decode cc (pc + 1) = .ok (.ifCond .ge off, 3)) (ht : ((pc + 1 : Nat) : Int) + off = (tgt : Int)) (kt : y ≤ x → zG C nL mp cells slots ws tgt lv st) (kf : ¬ y ≤ x → zG C nL mp cells slots ws (pc + 1 + 3) lv st) : zG C nL mp cells slots ws pc lv (.long y :: .long x :: st) := fun H locs ls h1 h2 h3 h4 hl => W.lcmp X.1 X.2.1 hd0 (lv_if_ge X.1 X.2.1 hd ht (fun h => kt ((lg_cmp_ge x y).mp h) H locs ls h1 h2 h3 h4 hl) (fun h => kf (fun h9 => h ((lg_cmp_ge x y).mpr h9)) H locs ls h1 h2 h3 h4 hl))
theorem z_lcmp_gt (X : zFx C cc nL own rm ret) {x y : Int64} {off : Int} {tgt : Nat} (hd0 : decode cc pc = .ok (.lcmp, 1)) (hd : decode cc (pc + 1) = .ok (.ifCond .gt off, 3)) (ht : ((pc + 1 : Nat) : Int) + off = (tgt : Int)) (kt : y < x → zG C nL mp cells slots ws tgt lv st) (kf : ¬ y < x → zG C nL mp cells slots ws (pc + 1 + 3) lv st) : zG C nL mp cells slots ws pc lv (.long y :: .long x :: st) := fun H locs ls h1 h2 h3 h4 hl => W.lcmp X.1 X.2.1 hd0 (lv_if_gt X.1 X.2.1 hd ht (fun h => kt ((lg_cmp_gt x y).mp h) H locs ls h1 h2 h3 h4 hl) (fun h => kf (fun h9 => h ((lg_cmp_gt x y).mpr h9)) H locs ls h1 h2 h3 h4 hl))
theorem z_lcmp_le (X : zFx C cc nL own rm ret) {x y : Int64} {off : Int} {tgt : Nat} (hd0 : decode cc pc = .ok (.lcmp, 1)) (hd : decode cc (pc + 1) = .ok (.ifCond .le off, 3)) (ht : ((pc + 1 : Nat) : Int) + off = (tgt : Int)) (kt : x ≤ y → zG C nL mp cells slots ws tgt lv st) (kf : ¬ x ≤ y → zG C nL mp cells slots ws (pc + 1 + 3) lv st) : zG C nL mp cells slots ws pc lv (.long y :: .long x :: st) := fun H locs ls h1 h2 h3 h4 hl => W.lcmp X.1 X.2.1 hd0 (lv_if_le X.1 X.2.1 hd ht (fun h => kt ((lg_cmp_le x y).mp h) H locs ls h1 h2 h3 h4 hl) (fun h => kf (fun h9 => h ((lg_cmp_le x y).mpr h9)) H locs ls h1 h2 h3 h4 hl))
theorem z_topi {x v : Int32} (e : v = x) (kk : zG C nL mp cells slots ws pc lv (.int v :: st)) : zG C nL mp cells slots ws pc lv (.int x :: st) := e ▸ kk
theorem z_topl {x v : Int64} (e : v = x) (kk : zG C nL mp cells slots ws pc lv (.long v :: st)) : zG C nL mp cells slots ws pc lv (.long x :: st) := e ▸ kk
theorem z_at {pc2 : Nat} {lv2 : List (Nat × Value)} {st2 : List Value} (hpc : pc = pc2) (hst : st = st2) (hw : ws = ws2) (ks : List Nat) (hlv : lv_pick lv ks = lv2) (kk : zG C nL mp cells slots ws2 pc2 lv2 st2) : zG C nL mp cells slots ws pc lv st := by
  subst hpc hst hw
  exact fun H locs ls h1 h2 h3 h4 hl => kk H locs ls h1 h2 h3 h4 (lv_sub hl ks hlv)
theorem z_get (X : zFx C cc nL own rm ret) {CC : String} {TT : u_T} {N index : Nat} (g j ci k : Nat) {w : va_W} {a : Nat} {fs : List Value} {v : Value} (hin : ∀ w ∈ u_ws CC TT N, w ∈ zW) (hc : vwCl[ci]? = some (CC, TT, N)) (hk : k < N) (hlink : Cond.fieldLink own index CC (TT k).2.1 (TT k).2.2.1 ∈ zW) (hself : (TT k).1 = CC) (hd : decode cc pc = .ok (.getfield index, 3)) (hg : ws[g]? = some w) (he : w[j]? = some (a, .inr (ci, fs))) (hv : fs[k]? = some v)
    (kk : zG C nL mp cells slots ws (pc + 3) lv (v :: st)) : zG C nL mp cells slots ws pc lv (.ref a :: st) := fun H locs ls h1 h2 h3 h4 hl =>
  va_get (ci := ci) X.1 X.2.1 (ref := CC) X.2.2.2.2.1 hin X.2.2.2.1 X.2.2.2.2.2.1 (h1 g _ hg) j he hc k hk (X.2.2.2.2.1 _ hlink) (fun x h => hself ▸ h) hv hd (kk H locs ls h1 h2 h3 h4 hl)
theorem z_getN (X : zFx C cc nL own rm ret) {host : String} {CC : String} {TT : u_T} {N index : Nat} (g j ci k : Nat) {w : va_W} {a : Nat} {fs : List Value} {v : Value} (hin : ∀ w ∈ u_ws CC TT N, w ∈ zW) (hc : vwCl[ci]? = some (CC, TT, N)) (hk : k < N) (hlink : Cond.fieldLinkNest own index CC (TT k).2.1 (TT k).2.2.1 host ∈ zNl) (hself : (TT k).1 = CC) (hd : decode cc pc = .ok (.getfield index, 3)) (hg : ws[g]? = some w) (he : w[j]? = some (a, .inr (ci, fs))) (hv : fs[k]? = some v)
    (kk : zG C nL mp cells slots ws (pc + 3) lv (v :: st)) : zG C nL mp cells slots ws pc lv (.ref a :: st) := fun H locs ls h1 h2 h3 h4 hl =>
  va_getN (ci := ci) X.1 X.2.1 (ref := CC) X.2.2.2.2.1 hin X.2.2.2.1 X.2.2.2.2.2.1 (h1 g _ hg) j he hc k hk (va_Nw.use (zisN_tab hlink) (X.2.2.2.2.2.2.2.2.2.2 _ hlink)) (fun x h => hself ▸ h) hv hd (kk H locs ls h1 h2 h3 h4 hl)
theorem z_put (X : zFx C cc nL own rm ret) {CC : String} {TT : u_T} {N index : Nat} (g j ci k : Nat) {w w2 : va_W} {a : Nat} {fs : List Value} {v : Value} (hin : ∀ w ∈ u_ws CC TT N, w ∈ zW) (hc : vwCl[ci]? = some (CC, TT, N)) (ty0 : Nat → FieldType) (hty : ∀ k, k < N → parseFieldDescriptor (TT k).2.2.1 = some (ty0 k)) (hnm : ∀ a, a < N → ∀ b, b < N → a ≠ b → (TT a).2.1 ≠ (TT b).2.1) (hk : k < N) (hlink : Cond.fieldLink own index CC (TT k).2.1 (TT k).2.2.1 ∈ zW) (hself : (TT k).1 = CC) (hfin : (TT k).2.2.2 = false) {ty : FieldType} (hds : parseFieldDescriptor (TT k).2.2.1 = some ty) (hn : narrow ty v = v) (hfit : fits ty v = true) (hl9 : k < fs.length) (hd : decode cc pc = .ok (.putfield index, 3)) (hg : ws[g]? = some w) (he : w[j]? = some (a, .inr (ci, fs))) (hmp : g ∈ mp) (hw2 : w.set j (a, .inr (ci, fs.set k v)) = w2) (hws : ws.set g w2 = ws2)
    (kk : zG C nL mp cells slots ws2 (pc + 3) lv st) : zG C nL mp cells slots ws pc lv (v :: .ref a :: st) := by
  intro H locs ls hP hD hM hS hl
  obtain ⟨hx, hb, -, hown, hts, hK, -, -, -, -, hXn⟩ := X
  have hap := va_apart (own := own) hts hin ty0 hty hnm hK hc
  obtain ⟨r, h1, cell, q1, q2, q3, q4⟩ := hP g _ hg j _ he
  have hr : r = (CC, TT, N) := Option.some.inj (h1.symm.trans hc)
  subst hr
  obtain ⟨hSl, hfc, kC, hkC, hkind⟩ := hK.1 ci _ hc
  obtain ⟨cf, kf, fi, f, hi, hsl⟩ := hSl k hk
  have hlay := hts _ (hin _ (u_in_lay hk))
  unfold u_lay at hlay
  rw [if_neg (by rw [hfin]; decide)] at hlay
  have hst := (u_facts hfc hkC (u_lays hts hin hk) hi).1
  have h6 := u_store hfc hkC hkind hlay hi hds hn hfit
  have hi2 := hi
  rw [hself] at hi2
  refine W.putK hx hb (f := f) ⟨hown, hts _ hlink, ⟨_, _, _, hi2⟩, hst⟩ (by rw [q2]; exact h6) q1 q3 (by rw [hsl]; exact k2_hasslot (q4 k hk)) rfl rfl hd fun H' e1 e2 e3 => ?_
  rw [hsl] at e1 ⊢
  subst hws hw2
  exact kk H' _ ls (zGP_set hP hD hg he ((hP g _ hg).set (hD.1 g _ hg) he ⟨_, hc, t_OB.to (V := updV (vp_V fs) k v) ⟨_, e1, q2, q3, t_set q4 hap hk v⟩ (fun j _ => vp_updV_set hl9 v j)⟩ e3) e3) (zGD_set hD hg (zad_set he)) (zM_set hg (zad_set he) hM) (hS.put e2 e3 (hM g hmp _ hg _ (zad_mem he))) hl
theorem z_putN (X : zFx C cc nL own rm ret) {host : String} {CC : String} {TT : u_T} {N index : Nat} (g j ci k : Nat) {w w2 : va_W} {a : Nat} {fs : List Value} {v : Value} (hin : ∀ w ∈ u_ws CC TT N, w ∈ zW) (hc : vwCl[ci]? = some (CC, TT, N)) (ty0 : Nat → FieldType) (hty : ∀ k, k < N → parseFieldDescriptor (TT k).2.2.1 = some (ty0 k)) (hnm : ∀ a, a < N → ∀ b, b < N → a ≠ b → (TT a).2.1 ≠ (TT b).2.1) (hk : k < N) (hlink : Cond.fieldLinkNest own index CC (TT k).2.1 (TT k).2.2.1 host ∈ zNl) (hself : (TT k).1 = CC) (hfin : (TT k).2.2.2 = false) {ty : FieldType} (hds : parseFieldDescriptor (TT k).2.2.1 = some ty) (hn : narrow ty v = v) (hfit : fits ty v = true) (hl9 : k < fs.length) (hd : decode cc pc = .ok (.putfield index, 3)) (hg : ws[g]? = some w) (he : w[j]? = some (a, .inr (ci, fs))) (hmp : g ∈ mp) (hw2 : w.set j (a, .inr (ci, fs.set k v)) = w2) (hws : ws.set g w2 = ws2)
    (kk : zG C nL mp cells slots ws2 (pc + 3) lv st) : zG C nL mp cells slots ws pc lv (v :: .ref a :: st) := by
  intro H locs ls hP hD hM hS hl
  obtain ⟨hx, hb, -, hown, hts, hK, -, -, -, -, hXn⟩ := X
  have hap := va_apart (own := own) hts hin ty0 hty hnm hK hc
  obtain ⟨r, h1, cell, q1, q2, q3, q4⟩ := hP g _ hg j _ he
  have hr : r = (CC, TT, N) := Option.some.inj (h1.symm.trans hc)
  subst hr
  obtain ⟨hSl, hfc, kC, hkC, hkind⟩ := hK.1 ci _ hc
  obtain ⟨cf, kf, fi, f, hi, hsl⟩ := hSl k hk
  have hlay := hts _ (hin _ (u_in_lay hk))
  unfold u_lay at hlay
  rw [if_neg (by rw [hfin]; decide)] at hlay
  have hst := (u_facts hfc hkC (u_lays hts hin hk) hi).1
  have h6 := u_store hfc hkC hkind hlay hi hds hn hfit
  have hi2 := hi
  rw [hself] at hi2
  refine va_WputK hx hb (f := f) hown (va_Nw.use (zisN_tab hlink) (hXn _ hlink)) hi2 hst (by rw [q2]; exact h6) q1 q3 (by rw [hsl]; exact k2_hasslot (q4 k hk)) rfl rfl hd fun H' e1 e2 e3 => ?_
  rw [hsl] at e1 ⊢
  subst hws hw2
  exact kk H' _ ls (zGP_set hP hD hg he ((hP g _ hg).set (hD.1 g _ hg) he ⟨_, hc, t_OB.to (V := updV (vp_V fs) k v) ⟨_, e1, q2, q3, t_set q4 hap hk v⟩ (fun j _ => vp_updV_set hl9 v j)⟩ e3) e3) (zGD_set hD hg (zad_set he)) (zM_set hg (zad_set he) hM) (hS.put e2 e3 (hM g hmp _ hg _ (zad_mem he))) hl
theorem z_iald (X : zFx C cc nL own rm ret) (g j : Nat) {w : va_W} {a N : Nat} {f : Nat → Int32} {i : Int32} (hi : zin i N = true) (hd : decode cc pc = .ok (.iaload, 1)) (hg : ws[g]? = some w) (he : w[j]? = some (a, .inl (zcT C 1, N, .inl f))) (kk : zG C nL mp cells slots ws (pc + 1) lv (.int (f i.toNatClampNeg) :: st)) : zG C nL mp cells slots ws pc lv (.int i :: .ref a :: st) := fun H locs ls h1 h2 h3 h4 hl =>
  va_iald X.1 X.2.1 X.2.2.2.2.2.1 (h1 g _ hg) j 1 he rfl (zin_of hi) hd (kk H locs ls h1 h2 h3 h4 hl)
theorem z_cald (X : zFx C cc nL own rm ret) (g j : Nat) {w : va_W} {a N : Nat} {f : Nat → Int32} {i : Int32} (hi : zin i N = true) (hd : decode cc pc = .ok (.caload, 1)) (hg : ws[g]? = some w) (he : w[j]? = some (a, .inl (zcT C 0, N, .inl f))) (kk : zG C nL mp cells slots ws (pc + 1) lv (.int (f i.toNatClampNeg) :: st)) : zG C nL mp cells slots ws pc lv (.int i :: .ref a :: st) := fun H locs ls h1 h2 h3 h4 hl =>
  va_cald X.1 X.2.1 X.2.2.2.2.2.1 (h1 g _ hg) j 0 he rfl (zin_of hi) hd (kk H locs ls h1 h2 h3 h4 hl)
theorem z_zald (X : zFx C cc nL own rm ret) (g j : Nat) {w : va_W} {a N : Nat} {f : Nat → Int32} {i : Int32} (hi : zin i N = true) (hd : decode cc pc = .ok (.baload, 1)) (hg : ws[g]? = some w) (he : w[j]? = some (a, .inl (zcT C 3, N, .inl f))) (kk : zG C nL mp cells slots ws (pc + 1) lv (.int (f i.toNatClampNeg) :: st)) : zG C nL mp cells slots ws pc lv (.int i :: .ref a :: st) := fun H locs ls h1 h2 h3 h4 hl =>
  va_zald X.1 X.2.1 X.2.2.2.2.2.1 (h1 g _ hg) j 3 he rfl (zin_of hi) hd (kk H locs ls h1 h2 h3 h4 hl)
theorem z_lald (X : zFx C cc nL own rm ret) (g j : Nat) {w : va_W} {a N : Nat} {f : Nat → Int64} {i : Int32} (hi : zin i N = true) (hd : decode cc pc = .ok (.laload, 1)) (hg : ws[g]? = some w) (he : w[j]? = some (a, .inl (zcT C 2, N, .inr (.inl f)))) (kk : zG C nL mp cells slots ws (pc + 1) lv (.long (f i.toNatClampNeg) :: st)) : zG C nL mp cells slots ws pc lv (.int i :: .ref a :: st) := fun H locs ls h1 h2 h3 h4 hl =>
  va_lald X.1 X.2.1 X.2.2.2.2.2.1 (h1 g _ hg) j 2 he rfl (zin_of hi) hd (kk H locs ls h1 h2 h3 h4 hl)
theorem z_iast (X : zFx C cc nL own rm ret) (g j : Nat) {w w2 : va_W} {a N : Nat} {f : Nat → Int32} {i : Int32} {x : Int32} (hin : zin i N = true) (hd : decode cc pc = .ok (.iastore, 1)) (hg : ws[g]? = some w) (ha : w[j]? = some (a, .inl (zcT C 1, N, .inl f))) (hmp : g ∈ mp) (hw2 : w.set j (a, .inl (zcT C 1, N, .inl (upd f i.toNatClampNeg x))) = w2) (hws : ws.set g w2 = ws2) (kk : zG C nL mp cells slots ws2 (pc + 1) lv st) : zG C nL mp cells slots ws pc lv (.int x :: .int i :: .ref a :: st) := by
  intro H locs ls hP hD hM hS hl
  obtain ⟨hx, hb, -, hown, hts, hK, -, -, -, -⟩ := X
  have hin := zin_of hin
  refine W.iast hx hb (hP g _ hg j _ ha) ((hK.2 1 _ rfl).1 N (fun j => .int (f j))) (fun q => by cases q) (by show ¬ (i < 0 ∨ (arrV _ _ _).slots.size ≤ _); rw [arrV_size]; exact hin) rfl rfl hd fun H1 e z oq => ?_
  subst hws hw2
  refine kk H1 _ ls (zGP_set hP hD hg ha ((hP g _ hg).set (hD.1 g _ hg) ha ?_ oq) oq) (zGD_set hD hg (zad_set ha)) (zM_set hg (zad_set ha) hM) (hS.put z oq (hM g hmp _ hg _ (zad_mem ha))) hl
  show H1[a]? = some (vp_cell _ _)
  rw [e]
  rw [vp_cell_i, vp_cell_i, arrV_store]
  congr 2
  funext q
  by_cases hq : q = i.toNatClampNeg
  · subst hq
    simp [updV, upd]
    try rfl
  · simp [updV, upd, hq]
theorem z_cast (X : zFx C cc nL own rm ret) (g j : Nat) {w w2 : va_W} {a N : Nat} {f : Nat → Int32} {i : Int32} {x : Int32} (hin : zin i N = true) (hd : decode cc pc = .ok (.castore, 1)) (hg : ws[g]? = some w) (ha : w[j]? = some (a, .inl (zcT C 0, N, .inl f))) (hmp : g ∈ mp) (hw2 : w.set j (a, .inl (zcT C 0, N, .inl (upd f i.toNatClampNeg (vp_nar .char x)))) = w2) (hws : ws.set g w2 = ws2) (kk : zG C nL mp cells slots ws2 (pc + 1) lv st) : zG C nL mp cells slots ws pc lv (.int x :: .int i :: .ref a :: st) := by
  intro H locs ls hP hD hM hS hl
  obtain ⟨hx, hb, -, hown, hts, hK, -, -, -, -⟩ := X
  have hin := zin_of hin
  refine W.cast hx hb (hP g _ hg j _ ha) ((hK.2 0 _ rfl).1 N (fun j => .int (f j))) (fun q => by cases q) (by show ¬ (i < 0 ∨ (arrV _ _ _).slots.size ≤ _); rw [arrV_size]; exact hin) rfl rfl hd fun H1 e z oq => ?_
  subst hws hw2
  refine kk H1 _ ls (zGP_set hP hD hg ha ((hP g _ hg).set (hD.1 g _ hg) ha ?_ oq) oq) (zGD_set hD hg (zad_set ha)) (zM_set hg (zad_set ha) hM) (hS.put z oq (hM g hmp _ hg _ (zad_mem ha))) hl
  show H1[a]? = some (vp_cell _ _)
  rw [e]
  rw [vp_cell_i, vp_cell_i, arrV_store]
  congr 2
  funext q
  by_cases hq : q = i.toNatClampNeg
  · subst hq
    simp [updV, upd, vp_nar]
    try rfl
  · simp [updV, upd, vp_nar, hq]
theorem z_zast (X : zFx C cc nL own rm ret) (g j : Nat) {w w2 : va_W} {a N : Nat} {f : Nat → Int32} {i : Int32} {x : Int32} (hin : zin i N = true) (hd : decode cc pc = .ok (.bastore, 1)) (hg : ws[g]? = some w) (ha : w[j]? = some (a, .inl (zcT C 3, N, .inl f))) (hmp : g ∈ mp) (hw2 : w.set j (a, .inl (zcT C 3, N, .inl (upd f i.toNatClampNeg (vp_nar .boolean x)))) = w2) (hws : ws.set g w2 = ws2) (kk : zG C nL mp cells slots ws2 (pc + 1) lv st) : zG C nL mp cells slots ws pc lv (.int x :: .int i :: .ref a :: st) := by
  intro H locs ls hP hD hM hS hl
  obtain ⟨hx, hb, -, hown, hts, hK, -, -, -, -⟩ := X
  have hin := zin_of hin
  refine W.zast hx hb (hP g _ hg j _ ha) ((hK.2 3 _ rfl).1 N (fun j => .int (f j))) (fun q => by cases q) (by show ¬ (i < 0 ∨ (arrV _ _ _).slots.size ≤ _); rw [arrV_size]; exact hin) rfl rfl hd fun H1 e z oq => ?_
  subst hws hw2
  refine kk H1 _ ls (zGP_set hP hD hg ha ((hP g _ hg).set (hD.1 g _ hg) ha ?_ oq) oq) (zGD_set hD hg (zad_set ha)) (zM_set hg (zad_set ha) hM) (hS.put z oq (hM g hmp _ hg _ (zad_mem ha))) hl
  show H1[a]? = some (vp_cell _ _)
  rw [e]
  rw [vp_cell_i, vp_cell_i, arrV_store]
  congr 2
  funext q
  by_cases hq : q = i.toNatClampNeg
  · subst hq
    simp [updV, upd, vp_nar]
    try rfl
  · simp [updV, upd, vp_nar, hq]
theorem z_last (X : zFx C cc nL own rm ret) (g j : Nat) {w w2 : va_W} {a N : Nat} {f : Nat → Int64} {i : Int32} {x : Int64} (hin : zin i N = true) (hd : decode cc pc = .ok (.lastore, 1)) (hg : ws[g]? = some w) (ha : w[j]? = some (a, .inl (zcT C 2, N, .inr (.inl f)))) (hmp : g ∈ mp) (hw2 : w.set j (a, .inl (zcT C 2, N, .inr (.inl (vp_updL f i.toNatClampNeg x)))) = w2) (hws : ws.set g w2 = ws2) (kk : zG C nL mp cells slots ws2 (pc + 1) lv st) : zG C nL mp cells slots ws pc lv (.long x :: .int i :: .ref a :: st) := by
  intro H locs ls hP hD hM hS hl
  obtain ⟨hx, hb, -, hown, hts, hK, -, -, -, -⟩ := X
  have hin := zin_of hin
  refine W.last hx hb (hP g _ hg j _ ha) ((hK.2 2 _ rfl).1 N (fun j => .long (f j))) (fun q => by cases q) (by show ¬ (i < 0 ∨ (arrV _ _ _).slots.size ≤ _); rw [arrV_size]; exact hin) rfl rfl hd fun H1 e z oq => ?_
  subst hws hw2
  refine kk H1 _ ls (zGP_set hP hD hg ha ((hP g _ hg).set (hD.1 g _ hg) ha ?_ oq) oq) (zGD_set hD hg (zad_set ha)) (zM_set hg (zad_set ha) hM) (hS.put z oq (hM g hmp _ hg _ (zad_mem ha))) hl
  show H1[a]? = some (vp_cell _ _)
  rw [e]
  rw [vp_cell_l, vp_cell_l, arrV_store]
  congr 2
  funext q
  by_cases hq : q = i.toNatClampNeg
  · subst hq
    simp [updV, vp_updL]
    try rfl
  · simp [updV, vp_updL, hq]
theorem z_alen (X : zFx C cc nL own rm ret) (g j t0 : Nat) {w : va_W} {a : Nat} {x : vp_A} {cA : ClassId} {ty : FieldType} {v : Int32} (ht : (zTY (zcT C))[t0]? = some (cA, ty)) (hv : Int32.ofNat x.1 = v) (hd : decode cc pc = .ok (.arraylength, 1)) (hg : ws[g]? = some w) (he : w[j]? = some (a, .inl (cA, x))) (kk : zG C nL mp cells slots ws (pc + 1) lv (.int v :: st)) : zG C nL mp cells slots ws pc lv (.ref a :: st) := fun H locs ls h1 h2 h3 h4 hl =>
  va_alen X.1 X.2.1 X.2.2.2.2.2.1 (h1 g _ hg) j t0 he ht hv hd (kk H locs ls h1 h2 h3 h4 hl)
/-- a method's start -/
def zPc (D : va_G) (T : Nat → ClassId) (av : List Value) (ws : List va_W) (sz : Nat) : Array Value → State → Prop := va_Pc av (fun U => U.heap.size = sz ∧ zGP D ws U.heap ∧ va_K D vwCl (zTY T) U ∧ zGD ws ∧ zEx U)
theorem zPc_blind {D : va_G} {T : Nat → ClassId} {av : List Value} {ws : List va_W} {sz : Nat} : FrameBlind (zPc D T av ws sz) := fun a U g mk q => by
  obtain ⟨q0, q1, qP, qK, qD, qE⟩ := q
  exact ⟨q0, q1, qP, va_K.moved (u := U) (U := U.calling g mk a) (Vm.Alike.refl U.vm) qK, qD, zEx.same (u := U) (U := U.calling g mk a) rfl qE⟩
abbrev zQi (D : va_G) (r0 : Int32) (wm1 : List va_W) (A : Nat → Prop) : Array Value → State → Outcome → State → Prop := va_Qi (fun r (_ : Unit) => r = r0) (fun _ t => zGP D wm1 t.heap) A
abbrev zQl (D : va_G) (r0 : Int64) (wm1 : List va_W) (A : Nat → Prop) : Array Value → State → Outcome → State → Prop := va_Ql (fun r (_ : Unit) => r = r0) (fun _ t => zGP D wm1 t.heap) A
abbrev zQf (D : va_G) (r0 : UInt32) (wm1 : List va_W) (A : Nat → Prop) : Array Value → State → Outcome → State → Prop := va_Qf (fun r (_ : Unit) => r = r0) (fun _ t => zGP D wm1 t.heap) A
abbrev zQv (D : va_G) (wm1 : List va_W) (A : Nat → Prop) : Array Value → State → Outcome → State → Prop := va_Qv (fun (_ : Unit) => True) (fun _ t => zGP D wm1 t.heap) A
/-- what a method without a throw owes at its end -/
def zHi (C : zCtx) (r0 : Int32) (wm1 : List va_W) (mc ms : Nat) : Prop := zcQ C = MQ (zcb C) (zQi (zcD C) r0 wm1 (zcA C)) (zca C) (zcs C) mc ms (zcA C)
def zHl (C : zCtx) (r0 : Int64) (wm1 : List va_W) (mc ms : Nat) : Prop := zcQ C = MQ (zcb C) (zQl (zcD C) r0 wm1 (zcA C)) (zca C) (zcs C) mc ms (zcA C)
def zHf (C : zCtx) (r0 : UInt32) (wm1 : List va_W) (mc ms : Nat) : Prop := zcQ C = MQ (zcb C) (zQf (zcD C) r0 wm1 (zcA C)) (zca C) (zcs C) mc ms (zcA C)
def zHv (C : zCtx) (wm1 : List va_W) (mc ms : Nat) : Prop := zcQ C = MQ (zcb C) (zQv (zcD C) wm1 (zcA C)) (zca C) (zcs C) mc ms (zcA C)
theorem zpl {ws wm : List va_W} {is : List Nat} (hm : is.map (fun i => ws[i]?) = wm.map some) {j : Nat} {q : va_W} (hj : wm[j]? = some q) : ∃ k, is[j]? = some k ∧ ws[k]? = some q := by
  have h1 : (is.map (fun i => ws[i]?))[j]? = some (some q) := by rw [hm, List.getElem?_map, hj]; rfl
  rw [List.getElem?_map] at h1
  cases hi : is[j]? with
  | none => rw [hi] at h1; cases h1
  | some i => rw [hi] at h1; exact ⟨i, rfl, Option.some.inj h1⟩
theorem zsubP {D : va_G} {ws wm : List va_W} {H : Heap} (hP : zGP D ws H) (isM : List Nat) (hm : isM.map (fun i => ws[i]?) = wm.map some) : zGP D wm H := by
  intro k q hk
  obtain ⟨i, -, h⟩ := zpl hm hk
  exact hP i q h
theorem zsubD {ws wm : List va_W} (hD : zGD ws) (is : List Nat) (hn : va_nd is = true) (hm : is.map (fun i => ws[i]?) = wm.map some) : zGD wm := by
  refine ⟨fun i w hw => ?_, fun i j w v hij hw hv => ?_⟩
  · obtain ⟨k, -, h⟩ := zpl hm hw
    exact hD.1 k w h
  · obtain ⟨k1, h1, h2⟩ := zpl hm hw
    obtain ⟨k2, h3, h4⟩ := zpl hm hv
    refine hD.2 k1 k2 w v (fun e => ?_) h2 h4
    subst e
    exact hij (va_nd_inj is hn i j k1 h1 h3)
theorem z_iret (X : zFx C cc nL own rm (some .int)) {v r0 : Int32} {wm1 : List va_W} {mc ms : Nat} (hQ : zHi C r0 wm1 mc ms) (hd : decode cc pc = .ok (.ireturn, 1)) (hr : v = r0) (isM : List Nat) (hm : isM.map (fun i => ws[i]?) = wm1.map some) (hmc : cells ≤ mc) (hms : slots ≤ ms) : zG C nL mp cells slots ws pc lv [.int v] := by
  intro H locs ls hP hD hM hS hl
  subst hr
  unfold zWW
  rw [hQ]
  have hlocks := X.2.2.2.2.2.2.2.1
  refine W.widen hmc hms ?_
  exact W.iret X.1 X.2.1 X.2.2.2.2.2.2.2.2.2.1 (fun t ht hW => ⟨⟨v, (), rfl, rfl, (by show zGP (zcD C) wm1 t.heap; rw [ht]; exact zsubP hP isM hm)⟩, hS.F ht⟩) hS.2.2 hd
theorem z_nret {ty : FieldType} (X : zFx C cc nL own rm (some ty)) {v r0 : Int32} {wm1 : List va_W} {mc ms : Nat} (hQ : zHi C r0 wm1 mc ms) (hn : znar ty v = true) (hd : decode cc pc = .ok (.ireturn, 1)) (hr : v = r0) (isM : List Nat) (hm : isM.map (fun i => ws[i]?) = wm1.map some) (hmc : cells ≤ mc) (hms : slots ≤ ms) : zG C nL mp cells slots ws pc lv [.int v] := by
  intro H locs ls hP hD hM hS hl
  subst hr
  unfold zWW
  rw [hQ]
  have hlocks := X.2.2.2.2.2.2.2.1
  refine W.widen hmc hms ?_
  exact W.zret X.1 X.2.1 X.2.2.2.2.2.2.2.2.2.1 (znar_of hn).1 (fun t ht hW => ⟨⟨v, (), rfl, rfl, (by show zGP (zcD C) wm1 t.heap; rw [ht]; exact zsubP hP isM hm)⟩, hS.F ht⟩) hS.2.2 hd
theorem z_lret (X : zFx C cc nL own rm (some .long)) {v r0 : Int64} {wm1 : List va_W} {mc ms : Nat} (hQ : zHl C r0 wm1 mc ms) (hd : decode cc pc = .ok (.lreturn, 1)) (hr : v = r0) (isM : List Nat) (hm : isM.map (fun i => ws[i]?) = wm1.map some) (hmc : cells ≤ mc) (hms : slots ≤ ms) : zG C nL mp cells slots ws pc lv [.long v] := by
  intro H locs ls hP hD hM hS hl
  subst hr
  unfold zWW
  rw [hQ]
  have hlocks := X.2.2.2.2.2.2.2.1
  refine W.widen hmc hms ?_
  exact W.lret X.1 X.2.1 X.2.2.2.2.2.2.2.2.2.1 (fun t ht hW => ⟨⟨v, (), rfl, rfl, (by show zGP (zcD C) wm1 t.heap; rw [ht]; exact zsubP hP isM hm)⟩, hS.F ht⟩) hS.2.2 hd
theorem z_fret (X : zFx C cc nL own rm (some .float)) {v r0 : UInt32} {wm1 : List va_W} {mc ms : Nat} (hQ : zHf C r0 wm1 mc ms) (hd : decode cc pc = .ok (.freturn, 1)) (hr : v = r0) (isM : List Nat) (hm : isM.map (fun i => ws[i]?) = wm1.map some) (hmc : cells ≤ mc) (hms : slots ≤ ms) : zG C nL mp cells slots ws pc lv [.float v] := by
  intro H locs ls hP hD hM hS hl
  subst hr
  unfold zWW
  rw [hQ]
  have hlocks := X.2.2.2.2.2.2.2.1
  refine W.widen hmc hms ?_
  exact W.fret X.1 X.2.1 X.2.2.2.2.2.2.2.2.2.1 (fun t ht hW => ⟨⟨v, (), rfl, rfl, (by show zGP (zcD C) wm1 t.heap; rw [ht]; exact zsubP hP isM hm)⟩, hS.F ht⟩) hS.2.2 hd
theorem z_vret (X : zFx C cc nL own rm none) {wm1 : List va_W} {mc ms : Nat} (hQ : zHv C wm1 mc ms) (hd : decode cc pc = .ok (.return_, 1)) (isM : List Nat) (hm : isM.map (fun i => ws[i]?) = wm1.map some) (hmc : cells ≤ mc) (hms : slots ≤ ms) : zG C nL mp cells slots ws pc lv [] := by
  intro H locs ls hP hD hM hS hl
  unfold zWW
  rw [hQ]
  have hlocks := X.2.2.2.2.2.2.2.1
  refine W.widen hmc hms ?_
  exact W.vret X.1 X.2.1 X.2.2.2.2.2.2.2.2.2.1 (fun t ht hW => ⟨⟨(), rfl, trivial, (by show zGP (zcD C) wm1 t.heap; rw [ht]; exact zsubP hP isM hm)⟩, hS.F ht⟩) hS.2.2 hd
end ZR
/-- a method, out of its body -/
theorem zMet {l : Launch} {y : MethodName} {cc : ByteArray} {maxL : Nat} {ret : Option FieldType} {rm : Room} {D : va_G} {T : Nat → ClassId} {av : List Value} {ws wm : (Nat → ClassId) → List va_W} {mc ms : Nat} {lv0 : List (Nat × Value)} (mp : List Nat) {Qc : va_G → (Nat → ClassId) → (Nat → Prop) → Array Value → State → Outcome → State → Prop} (hy : plainName y.cls = true) (hmp : mp.map (fun i => (ws T)[i]?) = (wm T).map some) (hlen : (lg_sl av).length ≤ maxL) (hlv : lv_args 0 av = lv0)
    (body : ∀ C : zCtx, zFx C cc maxL y.cls rm ret → zcQ C = MQ (zcb C) (Qc (zcD C) (zcT C) (zcA C)) (zca C) (zcs C) mc ms (zcA C) → zG C maxL mp 0 0 (ws (zcT C)) 0 lv0 []) (sz : Nat) :
    Met l y (zws y cc maxL ret) rm (zPc D T av (ws T) sz) (Qc D T (zA (wm T) sz)) mc ms (zA (wm T) sz) := by
  refine Met.ofW (cc := cc) (maxL := maxL) (ret := ret) hy rfl ?_
  intro p e s m args below meth c s₁ B hml hv
  obtain ⟨rfl, hsz, hP, hK, hD0, hE0⟩ := hv
  have hx := B.exec
  have hb := B.bytes
  have hr := B.returns
  have hts := atoms_spec (ws := zws y cc maxL ret) B.pre
  have hown : s.vm.findClass y.cls = some m.cls := findClass_of_methodNamed B.named
  have hlocks := B.notSynchronized
  have hmp2 : ∀ k ∈ mp, ∀ w : va_W, (ws T)[k]? = some w → ∀ x ∈ zad w, zA (wm T) sz x := by
    intro k hk q hq x hx
    obtain ⟨j, hj⟩ := List.getElem?_of_mem hk
    have h1 : (mp.map (fun i => (ws T)[i]?))[j]? = some (some q) := by rw [List.getElem?_map, hj]; simp [hq]
    rw [hmp, List.getElem?_map] at h1
    cases hw : (wm T)[j]? with
    | none => rw [hw] at h1; cases h1
    | some z =>
      rw [hw] at h1
      have h2 : z = q := Option.some.inj (Option.some.inj h1)
      subst h2
      exact Or.inl ⟨z, List.mem_of_getElem? hw, hx⟩
  have hl := lv_entry av (n := maxL) hlen
  rw [lg_entry_eq]
  rw [hlv] at hl
  refine body (p, l, e, rm, s, m, av.toArray, below, meth, c, D, T, zA (wm T) sz, MQ below (Qc D T (zA (wm T) sz)) av.toArray s mc ms (zA (wm T) sz)) ⟨hx, hb, hml, hown, fun w hw => hts w (List.mem_cons_of_mem _ hw), hK, fun q hq => Or.inr (hsz ▸ hq), hlocks, rfl, hr, hE0⟩ rfl s.heap [] _ hP hD0 hmp2 va_S.rf hl
/-- several groups of the world changed, by their places -/
def zput : List va_W → List Nat → List va_W → List va_W
  | ws, i :: is, e :: es => zput (ws.set i e) is es
  | ws, _, _ => ws
theorem zput_spec : ∀ (is : List Nat) (es ws : List va_W) (k : Nat) (q : va_W), is.length = es.length → (zput ws is es)[k]? = some q → (∃ j : Nat, is[j]? = some k ∧ es[j]? = some q) ∨ (k ∉ is ∧ ws[k]? = some q)
  | [], [], ws, k, q, _, h => Or.inr ⟨List.not_mem_nil, h⟩
  | [], e :: es, ws, k, q, h0, _ => by simp at h0
  | i :: is, [], ws, k, q, h0, _ => by simp at h0
  | i :: is, e :: es, ws, k, q, h0, h => by
    rcases zput_spec is es (ws.set i e) k q (by simpa using h0) h with ⟨j, h1, h2⟩ | ⟨h1, h2⟩
    · exact Or.inl ⟨j + 1, h1, h2⟩
    · by_cases hik : i = k
      · subst hik
        by_cases hlt : i < ws.length
        · rw [List.getElem?_set_self hlt] at h2
          exact Or.inl ⟨0, rfl, h2⟩
        · rw [List.getElem?_eq_none (by simp; omega)] at h2
          cases h2
      · rw [List.getElem?_set_ne hik] at h2
        exact Or.inr ⟨fun hm => (List.mem_cons.mp hm).elim (fun e => hik e.symm) h1, h2⟩
/-- the same addresses, group by group -/
def zSA : List va_W → List va_W → Prop
  | [], [] => True
  | a :: l, b :: r => zad a = zad b ∧ zSA l r
  | _, _ => False
theorem zSA_len : ∀ {l r : List va_W}, zSA l r → l.length = r.length
  | [], [], _ => rfl
  | a :: l, b :: r, h => by rw [List.length_cons, List.length_cons, zSA_len h.2]
theorem zSA_at : ∀ {l r : List va_W} {j : Nat} {w : va_W}, zSA l r → l[j]? = some w → ∃ v, r[j]? = some v ∧ zad w = zad v
  | a :: l, b :: r, 0, w, h, hw => by simp at hw; subst hw; exact ⟨b, rfl, h.1⟩
  | a :: l, b :: r, j + 1, w, h, hw => by
    rw [List.getElem?_cons_succ] at hw
    obtain ⟨v, h1, h2⟩ := zSA_at h.2 hw
    exact ⟨v, by rw [List.getElem?_cons_succ]; exact h1, h2⟩
theorem zlen {ws wm : List va_W} {is : List Nat} (hm : is.map (fun i => ws[i]?) = wm.map some) : is.length = wm.length := by
  have := congrArg List.length hm
  simpa using this
theorem zaddr {ws wm wm1 ws2 : List va_W} {is : List Nat} (hm : is.map (fun i => ws[i]?) = wm.map some) (ha : zSA wm1 wm) (hw : zput ws is wm1 = ws2) {k : Nat} {q : va_W} (hk : ws2[k]? = some q) : ∃ v : va_W, ws[k]? = some v ∧ zad q = zad v := by
  subst hw
  rcases zput_spec is wm1 ws k q ((zlen hm).trans (zSA_len ha).symm) hk with ⟨j, h1, h2⟩ | ⟨-, h2⟩
  · obtain ⟨v, h3, h4⟩ := zSA_at ha h2
    obtain ⟨k2, h5, h6⟩ := zpl hm h3
    have hk2 : k2 = k := Option.some.inj (h5.symm.trans h1)
    subst hk2
    exact ⟨v, h6, h4⟩
  · exact ⟨q, h2, rfl⟩
/-- behind a call -/
theorem zback {D : va_G} {ws wm wm1 ws2 : List va_W} {H H1 : Heap} {is : List Nat} (hP : zGP D ws H) (hD : zGD ws) (hm : is.map (fun i => ws[i]?) = wm.map some) (ha : zSA wm1 wm) (hw : zput ws is wm1 = ws2)
    (hk : ∀ q : Nat, q < H.size → ¬ zA wm H.size q → H1[q]? = H[q]?) (hP1 : zGP D wm1 H1) : zGP D ws2 H1 ∧ zGD ws2 := by
  have had := fun {k : Nat} {q : va_W} (h : ws2[k]? = some q) => zaddr hm ha hw h
  refine ⟨fun k q hq => ?_, ⟨fun i w hi => ?_, fun i j w v hij hi hj x hx => ?_⟩⟩
  · subst hw
    rcases zput_spec is wm1 ws k q ((zlen hm).trans (zSA_len ha).symm) hq with ⟨j, h1, h2⟩ | ⟨h1, h2⟩
    · exact hP1 j q h2
    · intro n z hz
      have hlt := (hP k q h2 n z hz).lt
      refine (hP k q h2 n z hz).kept (hk z.1 hlt (fun h => ?_))
      rcases h with ⟨w, hw, hx⟩ | h
      · obtain ⟨j, hj⟩ := List.getElem?_of_mem hw
        obtain ⟨k2, h3, h4⟩ := zpl hm hj
        have hne : k ≠ k2 := fun e => h1 (by rw [e]; exact List.mem_of_getElem? h3)
        exact hD.2 k k2 q w hne h2 h4 z.1 (List.mem_map.mpr ⟨z, List.mem_of_getElem? hz, rfl⟩) hx
      · exact absurd hlt (by omega)
  · obtain ⟨v, h1, h2⟩ := had hi
    exact zD_of h2.symm (hD.1 i v h1)
  · obtain ⟨w0, h1, h2⟩ := had hi
    obtain ⟨v0, h3, h4⟩ := had hj
    rw [h4]
    exact hD.2 i j w0 v0 hij h1 h3 x (by rw [← h2]; exact hx)
theorem zgood {y : MethodName} {bytes : ByteArray} {maxL : Nat} {ret : Option FieldType} (h : Cond.code y bytes maxL ret ∈ zW) : GoodIn zW (zws y bytes maxL ret) := fun w hw => by
  have : w ∈ zW := (List.mem_cons.mp hw).elim (fun e => by rw [e]; exact h) id
  exact ⟨this, zW_good this⟩
theorem zcallB {R : Room} {s : State} {args : Array Value} {own : String} {index : Nat} {y : MethodName} {bytes : ByteArray} {maxL : Nat} {ret : Option FieldType} {rmc : Room} {mc ms n : Nat} (hts : ∀ w ∈ zW, w.before args s = true) (hc : Cond.code y bytes maxL ret ∈ zW) (hi : Cond.initialized y.cls ∈ zW) (hl : Cond.methodLink own index y ∈ zW) (hd : y.cls ≠ "java/lang/invoke/MethodHandle" ∧ y.cls ≠ "java/lang/invoke/VarHandle" ∧ (parseMethodDescriptor y.desc).map (fun d => d.parameters.length) = some n) (hrc : rmc.cells = mc) (hrs : rmc.slots = ms) (hR : rmc.frames + 1 ≤ R.frames ∧ 8 + (maxL + 11) + rmc.locals ≤ R.locals) :
    CallB R s args own index y bytes maxL ret (zws y bytes maxL ret) rmc mc ms n :=
  callB_of n hts (zgood hc) rfl hrc hrs (hts _ hi) (hts _ hl) hd hR
section ZC
variable {C : zCtx} {cc : ByteArray} {nL : Nat} {own : String} {rm : Room} {ret : Option FieldType} {mp : List Nat} {cells slots : Nat} {ws ws2 : List va_W} {pc : Nat} {lv : List (Nat × Value)} {st st0 : List Value}
variable {y : MethodName} {bytes : ByteArray} {maxL n index mc ms : Nat} {retc : Option FieldType} {rmc : Room} {wc wm wm1 : List va_W} {As : List Value} {b : Nat}
theorem z_callVi (X : zFx C cc nL own rm ret) {r0 : Int32} (hM : ∀ sz, Met (zcl C) y (zws y bytes maxL retc) rmc (zPc (zcD C) (zcT C) (.ref b :: As) wc sz) (zQi (zcD C) r0 wm1 (zA wm sz)) mc ms (zA wm sz)) (M : zMV y bytes maxL retc n) (hlk : Cond.methodLink own index y ∈ zW) (hd : decode cc pc = .ok (.invokevirtual index, 3)) (g j ci : Nat) {w : va_W} {fs : List Value} {qcl : vw_C} (hg : ws[g]? = some w) (hrv : w[j]? = some (b, .inr (ci, fs))) (hcl : vwCl[ci]? = some qcl) (hyc : qcl.1 = y.cls) (isC : List Nat) (hC : isC.map (fun i => ws[i]?) = wc.map some) (hCn : va_nd isC = true) (isM : List Nat) (hMo : isM.map (fun i => ws[i]?) = wm.map some) (hmp : ∀ i ∈ isM, i ∈ mp) (ha : zSA wm1 wm) (hw2 : zput ws isM wm1 = ws2) (hst : st0 = As.reverse ++ .ref b :: st) (hn : As.length = n) (hcat : (st.map fun v => v.category).sum ≤ 8)
    (hrc : rmc.cells = mc) (hrs : rmc.slots = ms) (hroom : rmc.frames + 1 ≤ rm.frames ∧ 8 + (maxL + 11) + rmc.locals ≤ rm.locals) (hf : cells + mc ≤ rm.cells ∧ slots + ms ≤ rm.slots)
    (kk : zG C nL mp (cells + mc) (slots + ms) ws2 (pc + 3) lv (.int r0 :: st)) : zG C nL mp cells slots ws pc lv st0 := by
  intro H locs ls hP hD hmpA hS hl
  have hwA : ∀ q : Nat, zA wm H.size q → zcA C q := by
    intro q hq
    rcases hq with ⟨w, hw, hx⟩ | hq
    · obtain ⟨k, hk⟩ := List.getElem?_of_mem hw
      obtain ⟨j, h1, h2⟩ := zpl hMo hk
      exact hmpA j (hmp j (List.mem_of_getElem? h1)) _ h2 q hx
    · exact X.2.2.2.2.2.2.1 q (Nat.le_trans hS.1 hq)
  have hpre : ∀ U : State, U.heap = H → (zcs C).WarmedH U.vm → zPc (zcD C) (zcT C) (.ref b :: As) wc H.size (.ref b :: As).toArray U := fun U hU hW => ⟨rfl, by rw [hU], by rw [hU]; exact zsubP hP isC hC, va_K.moved hW.alike X.2.2.2.2.2.1, zsubD hD isC hCn hC, X.2.2.2.2.2.2.2.2.2.2.warm hW⟩
  subst hst
  refine va_calli (va_runV (As := As) (rest := st) ⟨X.1, X.2.1, X.2.2.1, X.2.2.2.1, X.2.2.2.2.1⟩ (hM H.size) ⟨zcallB X.2.2.2.2.1 M.1 M.2.1 hlk M.2.2.2.2 hrc hrs (X.2.2.2.2.2.2.2.2.1 ▸ hroom), X.2.2.2.2.1 _ M.2.2.1, X.2.2.2.2.1 _ M.2.2.2.1⟩ ⟨zPc_blind, hyc ▸ va_recv X.2.2.2.2.2.1 (hP g _ hg) hcl hrv, hpre⟩ rfl hn hl.1 rfl (lv_room hcat) hd (X.2.2.2.2.2.2.2.2.1 ▸ hf)) hS (fun q _ h => hwA q h) hwA (fun r u t H1 locs1 ht hvm hw hB hz1 hk1 hS => ?_)
  cases hw
  rw [ht] at hB
  obtain ⟨hP2, hD2⟩ := zback hP hD hMo ha hw2 hk1 hB
  refine kk H1 locs1 ls hP2 hD2 (fun k hk q hq x hx => ?_) hS hl
  obtain ⟨v, he, hv⟩ := zaddr hMo ha hw2 hq
  exact hmpA k hk v he x (by rw [← hv]; exact hx)
theorem z_callSi (X : zFx C cc nL own rm ret) {r0 : Int32} (hM : ∀ sz, Met (zcl C) y (zws y bytes maxL retc) rmc (zPc (zcD C) (zcT C) (As) wc sz) (zQi (zcD C) r0 wm1 (zA wm sz)) mc ms (zA wm sz)) (M : zMS y bytes maxL retc n) (hlk : Cond.methodLink own index y ∈ zW) (hd : decode cc pc = .ok (.invokestatic index, 3)) (isC : List Nat) (hC : isC.map (fun i => ws[i]?) = wc.map some) (hCn : va_nd isC = true) (isM : List Nat) (hMo : isM.map (fun i => ws[i]?) = wm.map some) (hmp : ∀ i ∈ isM, i ∈ mp) (ha : zSA wm1 wm) (hw2 : zput ws isM wm1 = ws2) (hst : st0 = As.reverse ++ st) (hn : As.length = n) (hcat : (st.map fun v => v.category).sum ≤ 8)
    (hrc : rmc.cells = mc) (hrs : rmc.slots = ms) (hroom : rmc.frames + 1 ≤ rm.frames ∧ 8 + (maxL + 11) + rmc.locals ≤ rm.locals) (hf : cells + mc ≤ rm.cells ∧ slots + ms ≤ rm.slots)
    (kk : zG C nL mp (cells + mc) (slots + ms) ws2 (pc + 3) lv (.int r0 :: st)) : zG C nL mp cells slots ws pc lv st0 := by
  intro H locs ls hP hD hmpA hS hl
  have hwA : ∀ q : Nat, zA wm H.size q → zcA C q := by
    intro q hq
    rcases hq with ⟨w, hw, hx⟩ | hq
    · obtain ⟨k, hk⟩ := List.getElem?_of_mem hw
      obtain ⟨j, h1, h2⟩ := zpl hMo hk
      exact hmpA j (hmp j (List.mem_of_getElem? h1)) _ h2 q hx
    · exact X.2.2.2.2.2.2.1 q (Nat.le_trans hS.1 hq)
  have hpre : ∀ U : State, U.heap = H → (zcs C).WarmedH U.vm → zPc (zcD C) (zcT C) (As) wc H.size (As).toArray U := fun U hU hW => ⟨rfl, by rw [hU], by rw [hU]; exact zsubP hP isC hC, va_K.moved hW.alike X.2.2.2.2.2.1, zsubD hD isC hCn hC, X.2.2.2.2.2.2.2.2.2.2.warm hW⟩
  subst hst
  refine va_calli (va_runS (As := As) (rest := st) ⟨X.1, X.2.1, X.2.2.1, X.2.2.2.1, X.2.2.2.2.1⟩ (hM H.size) ⟨zcallB X.2.2.2.2.1 M.1 M.2.1 hlk M.2.2.2 hrc hrs (X.2.2.2.2.2.2.2.2.1 ▸ hroom), X.2.2.2.2.1 _ M.2.2.1⟩ ⟨zPc_blind, hpre⟩ rfl hn hl.1 rfl (lv_room hcat) hd (X.2.2.2.2.2.2.2.2.1 ▸ hf)) hS (fun q _ h => hwA q h) hwA (fun r u t H1 locs1 ht hvm hw hB hz1 hk1 hS => ?_)
  cases hw
  rw [ht] at hB
  obtain ⟨hP2, hD2⟩ := zback hP hD hMo ha hw2 hk1 hB
  refine kk H1 locs1 ls hP2 hD2 (fun k hk q hq x hx => ?_) hS hl
  obtain ⟨v, he, hv⟩ := zaddr hMo ha hw2 hq
  exact hmpA k hk v he x (by rw [← hv]; exact hx)
theorem z_callVl (X : zFx C cc nL own rm ret) {r0 : Int64} (hM : ∀ sz, Met (zcl C) y (zws y bytes maxL retc) rmc (zPc (zcD C) (zcT C) (.ref b :: As) wc sz) (zQl (zcD C) r0 wm1 (zA wm sz)) mc ms (zA wm sz)) (M : zMV y bytes maxL retc n) (hlk : Cond.methodLink own index y ∈ zW) (hd : decode cc pc = .ok (.invokevirtual index, 3)) (g j ci : Nat) {w : va_W} {fs : List Value} {qcl : vw_C} (hg : ws[g]? = some w) (hrv : w[j]? = some (b, .inr (ci, fs))) (hcl : vwCl[ci]? = some qcl) (hyc : qcl.1 = y.cls) (isC : List Nat) (hC : isC.map (fun i => ws[i]?) = wc.map some) (hCn : va_nd isC = true) (isM : List Nat) (hMo : isM.map (fun i => ws[i]?) = wm.map some) (hmp : ∀ i ∈ isM, i ∈ mp) (ha : zSA wm1 wm) (hw2 : zput ws isM wm1 = ws2) (hst : st0 = As.reverse ++ .ref b :: st) (hn : As.length = n) (hcat : (st.map fun v => v.category).sum ≤ 8)
    (hrc : rmc.cells = mc) (hrs : rmc.slots = ms) (hroom : rmc.frames + 1 ≤ rm.frames ∧ 8 + (maxL + 11) + rmc.locals ≤ rm.locals) (hf : cells + mc ≤ rm.cells ∧ slots + ms ≤ rm.slots)
    (kk : zG C nL mp (cells + mc) (slots + ms) ws2 (pc + 3) lv (.long r0 :: st)) : zG C nL mp cells slots ws pc lv st0 := by
  intro H locs ls hP hD hmpA hS hl
  have hwA : ∀ q : Nat, zA wm H.size q → zcA C q := by
    intro q hq
    rcases hq with ⟨w, hw, hx⟩ | hq
    · obtain ⟨k, hk⟩ := List.getElem?_of_mem hw
      obtain ⟨j, h1, h2⟩ := zpl hMo hk
      exact hmpA j (hmp j (List.mem_of_getElem? h1)) _ h2 q hx
    · exact X.2.2.2.2.2.2.1 q (Nat.le_trans hS.1 hq)
  have hpre : ∀ U : State, U.heap = H → (zcs C).WarmedH U.vm → zPc (zcD C) (zcT C) (.ref b :: As) wc H.size (.ref b :: As).toArray U := fun U hU hW => ⟨rfl, by rw [hU], by rw [hU]; exact zsubP hP isC hC, va_K.moved hW.alike X.2.2.2.2.2.1, zsubD hD isC hCn hC, X.2.2.2.2.2.2.2.2.2.2.warm hW⟩
  subst hst
  refine va_calll (va_runV (As := As) (rest := st) ⟨X.1, X.2.1, X.2.2.1, X.2.2.2.1, X.2.2.2.2.1⟩ (hM H.size) ⟨zcallB X.2.2.2.2.1 M.1 M.2.1 hlk M.2.2.2.2 hrc hrs (X.2.2.2.2.2.2.2.2.1 ▸ hroom), X.2.2.2.2.1 _ M.2.2.1, X.2.2.2.2.1 _ M.2.2.2.1⟩ ⟨zPc_blind, hyc ▸ va_recv X.2.2.2.2.2.1 (hP g _ hg) hcl hrv, hpre⟩ rfl hn hl.1 rfl (lv_room hcat) hd (X.2.2.2.2.2.2.2.2.1 ▸ hf)) hS (fun q _ h => hwA q h) hwA (fun r u t H1 locs1 ht hvm hw hB hz1 hk1 hS => ?_)
  cases hw
  rw [ht] at hB
  obtain ⟨hP2, hD2⟩ := zback hP hD hMo ha hw2 hk1 hB
  refine kk H1 locs1 ls hP2 hD2 (fun k hk q hq x hx => ?_) hS hl
  obtain ⟨v, he, hv⟩ := zaddr hMo ha hw2 hq
  exact hmpA k hk v he x (by rw [← hv]; exact hx)
theorem z_callSl (X : zFx C cc nL own rm ret) {r0 : Int64} (hM : ∀ sz, Met (zcl C) y (zws y bytes maxL retc) rmc (zPc (zcD C) (zcT C) (As) wc sz) (zQl (zcD C) r0 wm1 (zA wm sz)) mc ms (zA wm sz)) (M : zMS y bytes maxL retc n) (hlk : Cond.methodLink own index y ∈ zW) (hd : decode cc pc = .ok (.invokestatic index, 3)) (isC : List Nat) (hC : isC.map (fun i => ws[i]?) = wc.map some) (hCn : va_nd isC = true) (isM : List Nat) (hMo : isM.map (fun i => ws[i]?) = wm.map some) (hmp : ∀ i ∈ isM, i ∈ mp) (ha : zSA wm1 wm) (hw2 : zput ws isM wm1 = ws2) (hst : st0 = As.reverse ++ st) (hn : As.length = n) (hcat : (st.map fun v => v.category).sum ≤ 8)
    (hrc : rmc.cells = mc) (hrs : rmc.slots = ms) (hroom : rmc.frames + 1 ≤ rm.frames ∧ 8 + (maxL + 11) + rmc.locals ≤ rm.locals) (hf : cells + mc ≤ rm.cells ∧ slots + ms ≤ rm.slots)
    (kk : zG C nL mp (cells + mc) (slots + ms) ws2 (pc + 3) lv (.long r0 :: st)) : zG C nL mp cells slots ws pc lv st0 := by
  intro H locs ls hP hD hmpA hS hl
  have hwA : ∀ q : Nat, zA wm H.size q → zcA C q := by
    intro q hq
    rcases hq with ⟨w, hw, hx⟩ | hq
    · obtain ⟨k, hk⟩ := List.getElem?_of_mem hw
      obtain ⟨j, h1, h2⟩ := zpl hMo hk
      exact hmpA j (hmp j (List.mem_of_getElem? h1)) _ h2 q hx
    · exact X.2.2.2.2.2.2.1 q (Nat.le_trans hS.1 hq)
  have hpre : ∀ U : State, U.heap = H → (zcs C).WarmedH U.vm → zPc (zcD C) (zcT C) (As) wc H.size (As).toArray U := fun U hU hW => ⟨rfl, by rw [hU], by rw [hU]; exact zsubP hP isC hC, va_K.moved hW.alike X.2.2.2.2.2.1, zsubD hD isC hCn hC, X.2.2.2.2.2.2.2.2.2.2.warm hW⟩
  subst hst
  refine va_calll (va_runS (As := As) (rest := st) ⟨X.1, X.2.1, X.2.2.1, X.2.2.2.1, X.2.2.2.2.1⟩ (hM H.size) ⟨zcallB X.2.2.2.2.1 M.1 M.2.1 hlk M.2.2.2 hrc hrs (X.2.2.2.2.2.2.2.2.1 ▸ hroom), X.2.2.2.2.1 _ M.2.2.1⟩ ⟨zPc_blind, hpre⟩ rfl hn hl.1 rfl (lv_room hcat) hd (X.2.2.2.2.2.2.2.2.1 ▸ hf)) hS (fun q _ h => hwA q h) hwA (fun r u t H1 locs1 ht hvm hw hB hz1 hk1 hS => ?_)
  cases hw
  rw [ht] at hB
  obtain ⟨hP2, hD2⟩ := zback hP hD hMo ha hw2 hk1 hB
  refine kk H1 locs1 ls hP2 hD2 (fun k hk q hq x hx => ?_) hS hl
  obtain ⟨v, he, hv⟩ := zaddr hMo ha hw2 hq
  exact hmpA k hk v he x (by rw [← hv]; exact hx)
theorem z_callVf (X : zFx C cc nL own rm ret) {r0 : UInt32} (hM : ∀ sz, Met (zcl C) y (zws y bytes maxL retc) rmc (zPc (zcD C) (zcT C) (.ref b :: As) wc sz) (zQf (zcD C) r0 wm1 (zA wm sz)) mc ms (zA wm sz)) (M : zMV y bytes maxL retc n) (hlk : Cond.methodLink own index y ∈ zW) (hd : decode cc pc = .ok (.invokevirtual index, 3)) (g j ci : Nat) {w : va_W} {fs : List Value} {qcl : vw_C} (hg : ws[g]? = some w) (hrv : w[j]? = some (b, .inr (ci, fs))) (hcl : vwCl[ci]? = some qcl) (hyc : qcl.1 = y.cls) (isC : List Nat) (hC : isC.map (fun i => ws[i]?) = wc.map some) (hCn : va_nd isC = true) (isM : List Nat) (hMo : isM.map (fun i => ws[i]?) = wm.map some) (hmp : ∀ i ∈ isM, i ∈ mp) (ha : zSA wm1 wm) (hw2 : zput ws isM wm1 = ws2) (hst : st0 = As.reverse ++ .ref b :: st) (hn : As.length = n) (hcat : (st.map fun v => v.category).sum ≤ 8)
    (hrc : rmc.cells = mc) (hrs : rmc.slots = ms) (hroom : rmc.frames + 1 ≤ rm.frames ∧ 8 + (maxL + 11) + rmc.locals ≤ rm.locals) (hf : cells + mc ≤ rm.cells ∧ slots + ms ≤ rm.slots)
    (kk : zG C nL mp (cells + mc) (slots + ms) ws2 (pc + 3) lv (.float r0 :: st)) : zG C nL mp cells slots ws pc lv st0 := by
  intro H locs ls hP hD hmpA hS hl
  have hwA : ∀ q : Nat, zA wm H.size q → zcA C q := by
    intro q hq
    rcases hq with ⟨w, hw, hx⟩ | hq
    · obtain ⟨k, hk⟩ := List.getElem?_of_mem hw
      obtain ⟨j, h1, h2⟩ := zpl hMo hk
      exact hmpA j (hmp j (List.mem_of_getElem? h1)) _ h2 q hx
    · exact X.2.2.2.2.2.2.1 q (Nat.le_trans hS.1 hq)
  have hpre : ∀ U : State, U.heap = H → (zcs C).WarmedH U.vm → zPc (zcD C) (zcT C) (.ref b :: As) wc H.size (.ref b :: As).toArray U := fun U hU hW => ⟨rfl, by rw [hU], by rw [hU]; exact zsubP hP isC hC, va_K.moved hW.alike X.2.2.2.2.2.1, zsubD hD isC hCn hC, X.2.2.2.2.2.2.2.2.2.2.warm hW⟩
  subst hst
  refine va_callf (va_runV (As := As) (rest := st) ⟨X.1, X.2.1, X.2.2.1, X.2.2.2.1, X.2.2.2.2.1⟩ (hM H.size) ⟨zcallB X.2.2.2.2.1 M.1 M.2.1 hlk M.2.2.2.2 hrc hrs (X.2.2.2.2.2.2.2.2.1 ▸ hroom), X.2.2.2.2.1 _ M.2.2.1, X.2.2.2.2.1 _ M.2.2.2.1⟩ ⟨zPc_blind, hyc ▸ va_recv X.2.2.2.2.2.1 (hP g _ hg) hcl hrv, hpre⟩ rfl hn hl.1 rfl (lv_room hcat) hd (X.2.2.2.2.2.2.2.2.1 ▸ hf)) hS (fun q _ h => hwA q h) hwA (fun r u t H1 locs1 ht hvm hw hB hz1 hk1 hS => ?_)
  cases hw
  rw [ht] at hB
  obtain ⟨hP2, hD2⟩ := zback hP hD hMo ha hw2 hk1 hB
  refine kk H1 locs1 ls hP2 hD2 (fun k hk q hq x hx => ?_) hS hl
  obtain ⟨v, he, hv⟩ := zaddr hMo ha hw2 hq
  exact hmpA k hk v he x (by rw [← hv]; exact hx)
theorem z_callSf (X : zFx C cc nL own rm ret) {r0 : UInt32} (hM : ∀ sz, Met (zcl C) y (zws y bytes maxL retc) rmc (zPc (zcD C) (zcT C) (As) wc sz) (zQf (zcD C) r0 wm1 (zA wm sz)) mc ms (zA wm sz)) (M : zMS y bytes maxL retc n) (hlk : Cond.methodLink own index y ∈ zW) (hd : decode cc pc = .ok (.invokestatic index, 3)) (isC : List Nat) (hC : isC.map (fun i => ws[i]?) = wc.map some) (hCn : va_nd isC = true) (isM : List Nat) (hMo : isM.map (fun i => ws[i]?) = wm.map some) (hmp : ∀ i ∈ isM, i ∈ mp) (ha : zSA wm1 wm) (hw2 : zput ws isM wm1 = ws2) (hst : st0 = As.reverse ++ st) (hn : As.length = n) (hcat : (st.map fun v => v.category).sum ≤ 8)
    (hrc : rmc.cells = mc) (hrs : rmc.slots = ms) (hroom : rmc.frames + 1 ≤ rm.frames ∧ 8 + (maxL + 11) + rmc.locals ≤ rm.locals) (hf : cells + mc ≤ rm.cells ∧ slots + ms ≤ rm.slots)
    (kk : zG C nL mp (cells + mc) (slots + ms) ws2 (pc + 3) lv (.float r0 :: st)) : zG C nL mp cells slots ws pc lv st0 := by
  intro H locs ls hP hD hmpA hS hl
  have hwA : ∀ q : Nat, zA wm H.size q → zcA C q := by
    intro q hq
    rcases hq with ⟨w, hw, hx⟩ | hq
    · obtain ⟨k, hk⟩ := List.getElem?_of_mem hw
      obtain ⟨j, h1, h2⟩ := zpl hMo hk
      exact hmpA j (hmp j (List.mem_of_getElem? h1)) _ h2 q hx
    · exact X.2.2.2.2.2.2.1 q (Nat.le_trans hS.1 hq)
  have hpre : ∀ U : State, U.heap = H → (zcs C).WarmedH U.vm → zPc (zcD C) (zcT C) (As) wc H.size (As).toArray U := fun U hU hW => ⟨rfl, by rw [hU], by rw [hU]; exact zsubP hP isC hC, va_K.moved hW.alike X.2.2.2.2.2.1, zsubD hD isC hCn hC, X.2.2.2.2.2.2.2.2.2.2.warm hW⟩
  subst hst
  refine va_callf (va_runS (As := As) (rest := st) ⟨X.1, X.2.1, X.2.2.1, X.2.2.2.1, X.2.2.2.2.1⟩ (hM H.size) ⟨zcallB X.2.2.2.2.1 M.1 M.2.1 hlk M.2.2.2 hrc hrs (X.2.2.2.2.2.2.2.2.1 ▸ hroom), X.2.2.2.2.1 _ M.2.2.1⟩ ⟨zPc_blind, hpre⟩ rfl hn hl.1 rfl (lv_room hcat) hd (X.2.2.2.2.2.2.2.2.1 ▸ hf)) hS (fun q _ h => hwA q h) hwA (fun r u t H1 locs1 ht hvm hw hB hz1 hk1 hS => ?_)
  cases hw
  rw [ht] at hB
  obtain ⟨hP2, hD2⟩ := zback hP hD hMo ha hw2 hk1 hB
  refine kk H1 locs1 ls hP2 hD2 (fun k hk q hq x hx => ?_) hS hl
  obtain ⟨v, he, hv⟩ := zaddr hMo ha hw2 hq
  exact hmpA k hk v he x (by rw [← hv]; exact hx)
theorem z_callVv (X : zFx C cc nL own rm ret)  (hM : ∀ sz, Met (zcl C) y (zws y bytes maxL retc) rmc (zPc (zcD C) (zcT C) (.ref b :: As) wc sz) (zQv (zcD C) wm1 (zA wm sz)) mc ms (zA wm sz)) (M : zMV y bytes maxL retc n) (hlk : Cond.methodLink own index y ∈ zW) (hd : decode cc pc = .ok (.invokevirtual index, 3)) (g j ci : Nat) {w : va_W} {fs : List Value} {qcl : vw_C} (hg : ws[g]? = some w) (hrv : w[j]? = some (b, .inr (ci, fs))) (hcl : vwCl[ci]? = some qcl) (hyc : qcl.1 = y.cls) (isC : List Nat) (hC : isC.map (fun i => ws[i]?) = wc.map some) (hCn : va_nd isC = true) (isM : List Nat) (hMo : isM.map (fun i => ws[i]?) = wm.map some) (hmp : ∀ i ∈ isM, i ∈ mp) (ha : zSA wm1 wm) (hw2 : zput ws isM wm1 = ws2) (hst : st0 = As.reverse ++ .ref b :: st) (hn : As.length = n) (hcat : (st.map fun v => v.category).sum ≤ 8)
    (hrc : rmc.cells = mc) (hrs : rmc.slots = ms) (hroom : rmc.frames + 1 ≤ rm.frames ∧ 8 + (maxL + 11) + rmc.locals ≤ rm.locals) (hf : cells + mc ≤ rm.cells ∧ slots + ms ≤ rm.slots)
    (kk : zG C nL mp (cells + mc) (slots + ms) ws2 (pc + 3) lv st) : zG C nL mp cells slots ws pc lv st0 := by
  intro H locs ls hP hD hmpA hS hl
  have hwA : ∀ q : Nat, zA wm H.size q → zcA C q := by
    intro q hq
    rcases hq with ⟨w, hw, hx⟩ | hq
    · obtain ⟨k, hk⟩ := List.getElem?_of_mem hw
      obtain ⟨j, h1, h2⟩ := zpl hMo hk
      exact hmpA j (hmp j (List.mem_of_getElem? h1)) _ h2 q hx
    · exact X.2.2.2.2.2.2.1 q (Nat.le_trans hS.1 hq)
  have hpre : ∀ U : State, U.heap = H → (zcs C).WarmedH U.vm → zPc (zcD C) (zcT C) (.ref b :: As) wc H.size (.ref b :: As).toArray U := fun U hU hW => ⟨rfl, by rw [hU], by rw [hU]; exact zsubP hP isC hC, va_K.moved hW.alike X.2.2.2.2.2.1, zsubD hD isC hCn hC, X.2.2.2.2.2.2.2.2.2.2.warm hW⟩
  subst hst
  refine va_callv (va_runV (As := As) (rest := st) ⟨X.1, X.2.1, X.2.2.1, X.2.2.2.1, X.2.2.2.2.1⟩ (hM H.size) ⟨zcallB X.2.2.2.2.1 M.1 M.2.1 hlk M.2.2.2.2 hrc hrs (X.2.2.2.2.2.2.2.2.1 ▸ hroom), X.2.2.2.2.1 _ M.2.2.1, X.2.2.2.2.1 _ M.2.2.2.1⟩ ⟨zPc_blind, hyc ▸ va_recv X.2.2.2.2.2.1 (hP g _ hg) hcl hrv, hpre⟩ rfl hn hl.1 rfl (lv_room hcat) hd (X.2.2.2.2.2.2.2.2.1 ▸ hf)) hS (fun q _ h => hwA q h) hwA (fun u t H1 locs1 ht hvm hw hB hz1 hk1 hS => ?_)
  skip
  rw [ht] at hB
  obtain ⟨hP2, hD2⟩ := zback hP hD hMo ha hw2 hk1 hB
  refine kk H1 locs1 ls hP2 hD2 (fun k hk q hq x hx => ?_) hS hl
  obtain ⟨v, he, hv⟩ := zaddr hMo ha hw2 hq
  exact hmpA k hk v he x (by rw [← hv]; exact hx)
theorem z_callSv (X : zFx C cc nL own rm ret)  (hM : ∀ sz, Met (zcl C) y (zws y bytes maxL retc) rmc (zPc (zcD C) (zcT C) (As) wc sz) (zQv (zcD C) wm1 (zA wm sz)) mc ms (zA wm sz)) (M : zMS y bytes maxL retc n) (hlk : Cond.methodLink own index y ∈ zW) (hd : decode cc pc = .ok (.invokestatic index, 3)) (isC : List Nat) (hC : isC.map (fun i => ws[i]?) = wc.map some) (hCn : va_nd isC = true) (isM : List Nat) (hMo : isM.map (fun i => ws[i]?) = wm.map some) (hmp : ∀ i ∈ isM, i ∈ mp) (ha : zSA wm1 wm) (hw2 : zput ws isM wm1 = ws2) (hst : st0 = As.reverse ++ st) (hn : As.length = n) (hcat : (st.map fun v => v.category).sum ≤ 8)
    (hrc : rmc.cells = mc) (hrs : rmc.slots = ms) (hroom : rmc.frames + 1 ≤ rm.frames ∧ 8 + (maxL + 11) + rmc.locals ≤ rm.locals) (hf : cells + mc ≤ rm.cells ∧ slots + ms ≤ rm.slots)
    (kk : zG C nL mp (cells + mc) (slots + ms) ws2 (pc + 3) lv st) : zG C nL mp cells slots ws pc lv st0 := by
  intro H locs ls hP hD hmpA hS hl
  have hwA : ∀ q : Nat, zA wm H.size q → zcA C q := by
    intro q hq
    rcases hq with ⟨w, hw, hx⟩ | hq
    · obtain ⟨k, hk⟩ := List.getElem?_of_mem hw
      obtain ⟨j, h1, h2⟩ := zpl hMo hk
      exact hmpA j (hmp j (List.mem_of_getElem? h1)) _ h2 q hx
    · exact X.2.2.2.2.2.2.1 q (Nat.le_trans hS.1 hq)
  have hpre : ∀ U : State, U.heap = H → (zcs C).WarmedH U.vm → zPc (zcD C) (zcT C) (As) wc H.size (As).toArray U := fun U hU hW => ⟨rfl, by rw [hU], by rw [hU]; exact zsubP hP isC hC, va_K.moved hW.alike X.2.2.2.2.2.1, zsubD hD isC hCn hC, X.2.2.2.2.2.2.2.2.2.2.warm hW⟩
  subst hst
  refine va_callv (va_runS (As := As) (rest := st) ⟨X.1, X.2.1, X.2.2.1, X.2.2.2.1, X.2.2.2.2.1⟩ (hM H.size) ⟨zcallB X.2.2.2.2.1 M.1 M.2.1 hlk M.2.2.2 hrc hrs (X.2.2.2.2.2.2.2.2.1 ▸ hroom), X.2.2.2.2.1 _ M.2.2.1⟩ ⟨zPc_blind, hpre⟩ rfl hn hl.1 rfl (lv_room hcat) hd (X.2.2.2.2.2.2.2.2.1 ▸ hf)) hS (fun q _ h => hwA q h) hwA (fun u t H1 locs1 ht hvm hw hB hz1 hk1 hS => ?_)
  skip
  rw [ht] at hB
  obtain ⟨hP2, hD2⟩ := zback hP hD hMo ha hw2 hk1 hB
  refine kk H1 locs1 ls hP2 hD2 (fun k hk q hq x hx => ?_) hS hl
  obtain ⟨v, he, hv⟩ := zaddr hMo ha hw2 hq
  exact hmpA k hk v he x (by rw [← hv]; exact hx)
end ZC
