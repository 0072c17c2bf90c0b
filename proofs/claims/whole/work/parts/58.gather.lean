/-! 58: the sides that are gathered, as a list. -/
theorem zApp_len {s : zSt} {k : Nat} (hs : zgi s 3 = zI k) (h : k < 18) (a b c e m : Int32) : zgi (zApp s a b c e m) 3 = zI (k + 1) := by
  unfold zApp
  simp only [gi_si, hs]
  rw [zI_nat (by omega)]
theorem eX7_putRow_59 {s P : zSt} {k r f : Nat} {num rel : Int32} (hs : zgi s 3 = zI k) (h : k < 18) (hr : r < 12) : fX7_putRow_59 P (f + 4) s (zI r) num rel 0 = some (zApp s (zga P 2 (r * 3 + 0)) (zga P 2 (r * 3 + 1)) (zga P 2 (r * 3 + 2)) (-num) (if rel = 61 then 1 else 0)) := by
  have z1 := fun (x : Int32) => eX7_putSlope (s := s) (k := k) (i := 0) (v := x) hs (by omega)
  have z2 := fun (x y : Int32) => eX7_putSlope (s := zsa s 0 (upd (zga s 0) (k * 3 + 0) x)) (k := k) (i := 1) (v := y) hs (by omega)
  have z3 := fun (x y z : Int32) => eX7_putSlope (s := zsa (zsa s 0 (upd (zga s 0) (k * 3 + 0) x)) 0 (upd (zga (zsa s 0 (upd (zga s 0) (k * 3 + 0) x)) 0) (k * 3 + 1) y)) (k := k) (i := 2) (v := z) hs (by omega)
  have z4 := fun (x y z e m : Int32) (hm : vp_nar .boolean m = m) => eX7_app (s := s) (a := x) (b := y) (c := z) (e := e) (m := m) hs h hm rfl rfl rfl
  rw [zn0, fX7_putRow_59]
  simp (disch := omega) only [zn3, zI_le_f, if_false, eX5_rowCoefficient, zbs, z1, zlet]
  rw [zn1, zI_add, fX7_putRow_59]
  simp (disch := omega) only [zn3, zI_le_f, if_false, eX5_rowCoefficient, zbs, z2, zlet]
  rw [zn1, zI_add, fX7_putRow_59]
  simp (disch := omega) only [zn3, zI_le_f, if_false, eX5_rowCoefficient, zbs, z3, zlet]
  rw [zn1, zI_add, fX7_putRow_59]
  simp (disch := omega) only [zn3, zI_le_t, if_true, fX7_putRow_99, fX7_putRow_102]
  by_cases c : rel = 61
  · rw [if_pos c, if_pos c]
    have := z4 (zga P 2 (r * 3 + 0)) (zga P 2 (r * 3 + 1)) (zga P 2 (r * 3 + 2)) (-num) 1 zb1
    rw [← zn1, this]
    rfl
  · rw [if_neg c, if_neg c]
    have := z4 (zga P 2 (r * 3 + 0)) (zga P 2 (r * 3 + 1)) (zga P 2 (r * 3 + 2)) (-num) 0 zb0
    rw [this]
    rfl
theorem eX7_putRow_17 {s P : zSt} {k r f : Nat} {num rel : Int32} (hs : zgi s 3 = zI k) (h : k < 18) (hr : r < 12) : fX7_putRow_17 P (f + 4) s (zI r) num rel 0 = fX7_putRow_49 P (zApp s (-zga P 2 (r * 3 + 0)) (-zga P 2 (r * 3 + 1)) (-zga P 2 (r * 3 + 2)) num 0) (zI r) num rel := by
  have z1 := fun (x : Int32) => eX7_putSlope (s := s) (k := k) (i := 0) (v := x) hs (by omega)
  have z2 := fun (x y : Int32) => eX7_putSlope (s := zsa s 0 (upd (zga s 0) (k * 3 + 0) x)) (k := k) (i := 1) (v := y) hs (by omega)
  have z3 := fun (x y z : Int32) => eX7_putSlope (s := zsa (zsa s 0 (upd (zga s 0) (k * 3 + 0) x)) 0 (upd (zga (zsa s 0 (upd (zga s 0) (k * 3 + 0) x)) 0) (k * 3 + 1) y)) (k := k) (i := 2) (v := z) hs (by omega)
  have z4 := fun (x y z e m : Int32) (hm : vp_nar .boolean m = m) => eX7_app (s := s) (a := x) (b := y) (c := z) (e := e) (m := m) hs h hm rfl rfl rfl
  rw [zn0, fX7_putRow_17]
  simp (disch := omega) only [zn3, zI_le_f, if_false, eX5_rowCoefficient, zbs, z1, zlet]
  rw [zn1, zI_add, fX7_putRow_17]
  simp (disch := omega) only [zn3, zI_le_f, if_false, eX5_rowCoefficient, zbs, z2, zlet]
  rw [zn1, zI_add, fX7_putRow_17]
  simp (disch := omega) only [zn3, zI_le_f, if_false, eX5_rowCoefficient, zbs, z3, zlet]
  rw [zn1, zI_add, fX7_putRow_17]
  simp (disch := omega) only [zn3, zI_le_t, if_true]
  have := z4 (-zga P 2 (r * 3 + 0)) (-zga P 2 (r * 3 + 1)) (-zga P 2 (r * 3 + 2)) num 0 zb0
  rw [this]
  rfl
/-- the sides of a row -/
def zRS (P : zSt) (num : Int32) (r : Nat) : List (zV × Bool) :=
  (if zga P 3 r = 62 then [] else [((-(zga P 2 (r * 3 + 0)).toInt, -(zga P 2 (r * 3 + 1)).toInt, -(zga P 2 (r * 3 + 2)).toInt, num.toInt), false)]) ++ (if zga P 3 r = 60 then [] else [(((zga P 2 (r * 3 + 0)).toInt, (zga P 2 (r * 3 + 1)).toInt, (zga P 2 (r * 3 + 2)).toInt, -num.toInt), decide (zga P 3 r = 61))])
theorem zRS_len (P : zSt) (num : Int32) (r : Nat) : (zRS P num r).length ≤ 2 := by
  unfold zRS
  split <;> split <;> simp
theorem eX7_putRow {s P : zSt} {L : List (zV × Bool)} {r : Nat} {num : Int32} (hL : zLi s L) (h : L.length + 2 ≤ 18) (hr : r < 12) (hc : ∀ i, i < 3 → zab (zga P 2 (r * 3 + i)).toInt 9) (hrel : zga P 3 r = 60 ∨ zga P 3 r = 61 ∨ zga P 3 r = 62) (hn : zab num.toInt 100) : ∃ s2, fX7_putRow s P (zI r) num = some s2 ∧ zLi s2 (L ++ zRS P num r) := by
  have hs := hL.1
  have n0 : (-zga P 2 (r * 3 + 0)).toInt = -(zga P 2 (r * 3 + 0)).toInt := z32neg (hc 0 (by omega)) (by omega)
  have n1 : (-zga P 2 (r * 3 + 1)).toInt = -(zga P 2 (r * 3 + 1)).toInt := z32neg (hc 1 (by omega)) (by omega)
  have n2 : (-zga P 2 (r * 3 + 2)).toInt = -(zga P 2 (r * 3 + 2)).toInt := z32neg (hc 2 (by omega)) (by omega)
  have nn : (-num).toInt = -num.toInt := z32neg hn (by omega)
  have a1 := zLi_app hL (by omega) (-zga P 2 (r * 3 + 0)) (-zga P 2 (r * 3 + 1)) (-zga P 2 (r * 3 + 2)) num 0 false rfl
  rw [n0, n1, n2] at a1
  unfold fX7_putRow zRS
  rw [eX5_relationOf hr hrel]
  simp only [zbs]
  rcases hrel with e | e | e
  · rw [e]
    rw [if_neg (by decide), if_neg (by decide), if_pos rfl, eX7_putRow_17 (f := 5996) hs (by omega) hr]
    unfold fX7_putRow_49
    rw [if_pos rfl]
    refine ⟨_, rfl, ?_⟩
    simpa using a1
  · rw [e]
    rw [if_neg (by decide), if_neg (by decide), if_neg (by decide), eX7_putRow_17 (f := 5996) hs (by omega) hr]
    unfold fX7_putRow_49
    rw [if_neg (by decide), eX7_putRow_59 (f := 5996) a1.1 (by simp; omega) hr]
    refine ⟨_, rfl, ?_⟩
    have a2 := zLi_app a1 (by simp; omega) (zga P 2 (r * 3 + 0)) (zga P 2 (r * 3 + 1)) (zga P 2 (r * 3 + 2)) (-num) 1 true rfl
    rw [nn] at a2
    simpa using a2
  · rw [e]
    rw [if_pos rfl, if_pos rfl, if_neg (by decide)]
    unfold fX7_putRow_49
    rw [if_neg (by decide), eX7_putRow_59 (f := 5996) hs (by omega) hr]
    refine ⟨_, rfl, ?_⟩
    have a2 := zLi_app hL (by omega) (zga P 2 (r * 3 + 0)) (zga P 2 (r * 3 + 1)) (zga P 2 (r * 3 + 2)) (-num) 0 false rfl
    rw [nn] at a2
    simpa using a2
/-- a row is gathered -/
def zgat (P : zSt) (x2 : Int32) (r : Nat) : Prop := zga P 5 r ≠ 0 ∧ ((x2 >>> (zI r &&& (31 : Int32))) &&& (1 : Int32)) = 0
def zrnum (P : zSt) (x3 : Int32) (r : Nat) : Int32 := zga P 4 r + (if zI r = x3 then 1 else 0)
noncomputable def zRw (P : zSt) (x2 x3 : Int32) (r : Nat) : List (zV × Bool) := if zga P 5 r = 0 then [] else if ((x2 >>> (zI r &&& (31 : Int32))) &&& (1 : Int32)) = 0 then zRS P (zrnum P x3 r) r else []
noncomputable def zRL (P : zSt) (x2 x3 : Int32) : Nat → List (zV × Bool)
  | 0 => []
  | r + 1 => zRL P x2 x3 r ++ zRw P x2 x3 r
theorem zRw_len (P : zSt) (x2 x3 : Int32) (r : Nat) : (zRw P x2 x3 r).length ≤ 2 * (if zga P 5 r = 0 then 0 else 1) := by
  unfold zRw
  by_cases c : zga P 5 r = 0
  · rw [if_pos c]; simp
  · rw [if_neg c, if_neg c]
    split
    · exact zRS_len P _ r
    · simp
theorem zRL_len (P : zSt) (x2 x3 : Int32) (m : Nat) : (zRL P x2 x3 m).length ≤ 2 * zlv P m := by
  induction m with
  | zero => exact Nat.le_refl 0
  | succ m ih =>
    have h1 := zRw_len P x2 x3 m
    have e : zlv P (m + 1) = zlv P m + if zga P 5 m = 0 then 0 else 1 := rfl
    unfold zRL
    rw [List.length_append]
    omega
theorem zRL_mem {P : zSt} {x2 x3 : Int32} {m : Nat} {v : zV × Bool} : v ∈ zRL P x2 x3 m ↔ ∃ r, r < m ∧ zgat P x2 r ∧ v ∈ zRS P (zrnum P x3 r) r := by
  induction m with
  | zero =>
    constructor
    · intro h; cases h
    · rintro ⟨r, h, -⟩; omega
  | succ m ih =>
    unfold zRL
    rw [List.mem_append, ih]
    constructor
    · rintro (⟨r, h1, h2, h3⟩ | h)
      · exact ⟨r, by omega, h2, h3⟩
      · unfold zRw at h
        split at h
        · cases h
        · rename_i c1
          split at h
          · rename_i c2
            exact ⟨m, by omega, ⟨c1, c2⟩, h⟩
          · cases h
    · rintro ⟨r, h1, h2, h3⟩
      by_cases c : r < m
      · exact Or.inl ⟨r, c, h2, h3⟩
      · have : r = m := by omega
        subst this
        right
        unfold zRw
        rw [if_neg h2.1, if_pos h2.2]
        exact h3
noncomputable def zBL (P : zSt) : Nat → List (zV × Bool)
  | 0 => []
  | i + 1 => zBL P i ++ if (100 : Int32) ≤ zga P 1 i then [] else [((if i = 0 then -1 else 0, if i = 1 then -1 else 0, if i = 2 then -1 else 0, (zga P 1 i).toInt), false)]
theorem zBL_len (P : zSt) (n : Nat) : (zBL P n).length ≤ n := by
  induction n with
  | zero => exact Nat.le_refl 0
  | succ n ih =>
    unfold zBL
    rw [List.length_append]
    split <;> simp <;> omega
theorem zBL_mem {P : zSt} {n : Nat} {v : zV × Bool} : v ∈ zBL P n ↔ ∃ i, i < n ∧ ¬ (100 : Int32) ≤ zga P 1 i ∧ v = ((if i = 0 then -1 else 0, if i = 1 then -1 else 0, if i = 2 then -1 else 0, (zga P 1 i).toInt), false) := by
  induction n with
  | zero =>
    constructor
    · intro h; cases h
    · rintro ⟨r, h, -⟩; omega
  | succ n ih =>
    unfold zBL
    rw [List.mem_append, ih]
    constructor
    · rintro (⟨r, h1, h2, h3⟩ | h)
      · exact ⟨r, by omega, h2, h3⟩
      · split at h
        · cases h
        · rename_i c1
          exact ⟨n, by omega, c1, List.mem_singleton.mp h⟩
    · rintro ⟨r, h1, h2, h3⟩
      by_cases c : r < n
      · exact Or.inl ⟨r, c, h2, h3⟩
      · have : r = n := by omega
        subst this
        right
        rw [if_neg h2]
        exact List.mem_singleton.mpr h3
def zLL (P : zSt) : List (zV × Bool) := [((1, 0, 0, -(zga P 0 0).toInt), false), ((0, 1, 0, -(zga P 0 1).toInt), false), ((0, 0, 1, -(zga P 0 2).toInt), false)]
noncomputable def zGa (P : zSt) (x2 x3 : Int32) (n m : Nat) : List (zV × Bool) := zLL P ++ zRL P x2 x3 m ++ zBL P n
theorem zga_98 {n m q : Nat} {P : zSt} (hP : zPw n m q P) (B : List (zV × Bool)) (hB : B.length + n ≤ 18) : ∀ (d i f : Nat) (s : zSt), i + d = n → d < f → zLi s (B ++ zBL P i) → ∃ s2, fX7_gather_98 P f s (zI i) = some s2 ∧ zLi s2 (B ++ zBL P n)
  | 0, i, f + 1, s, hi, hf, hs => by
    have hn := hP.1
    refine ⟨s, ?_, by rw [← hi]; exact hs⟩
    rw [fX7_gather_98, hP.2.2.2.1]
    simp (disch := omega) only [zI_le_t, if_true]
  | d + 1, i, f + 1, s, hi, hf, hs => by
    have hn := hP.1
    have hl : (B ++ zBL P i).length < 18 := by
      rw [List.length_append]
      have := zBL_len P i
      omega
    rw [fX7_gather_98, hP.2.2.2.1]
    simp (disch := omega) only [zI_le_f, if_false, eX5_hasGreatest, zbs]
    by_cases c : (100 : Int32) ≤ zga P 1 i
    · rw [if_pos c, if_pos rfl]
      simp only [fX7_gather_129, zlet]
      rw [zn1, zI_add]
      refine zga_98 hP B hB d (i + 1) f s (by omega) (by omega) ?_
      unfold zBL
      rw [if_pos c]
      simpa using hs
    · rw [if_neg c, if_neg (by decide), eX5_greatestOf (by omega)]
      simp only [zbs]
      rw [eX7_putBound hs.1 hl (by omega)]
      simp only [zbs, fX7_gather_129, zlet]
      rw [zn1, zI_add]
      refine zga_98 hP B hB d (i + 1) f _ (by omega) (by omega) ?_
      have a1 := zLi_app hs hl (if i = 0 then -1 else 0) (if i = 1 then -1 else 0) (if i = 2 then -1 else 0) (zga P 1 i) 0 false rfl
      have e0 : ∀ k, (if i = k then (-1 : Int32) else 0).toInt = if i = k then -1 else 0 := by
        intro k
        by_cases ck : i = k
        · rw [if_pos ck, if_pos ck]; decide
        · rw [if_neg ck, if_neg ck]; decide
      rw [e0, e0, e0] at a1
      unfold zBL
      rw [if_neg c, ← List.append_assoc]
      exact a1
theorem zga_37 {n m q : Nat} {P : zSt} (hP : zPw n m q P) (x2 x3 : Int32) (B : List (zV × Bool)) (hB : B.length = 3) : ∀ (d r f : Nat) (s : zSt), r + d = m → d < f → zLi s (B ++ zRL P x2 x3 r) → ∃ s2, fX7_gather_37 P f s x2 x3 (zI r) = some s2 ∧ zLi s2 (B ++ zRL P x2 x3 m ++ zBL P n)
  | 0, r, f + 1, s, hr, hf, hs => by
    have hm := hP.2.1
    have hn := hP.1
    rw [fX7_gather_37, hP.2.2.2.2.1]
    simp (disch := omega) only [zI_le_t, if_true, zn0]
    have hr2 : r = m := by omega
    subst hr2
    refine zga_98 hP (B ++ zRL P x2 x3 r) ?_ n 0 6000 s (by omega) (by omega) ?_
    · rw [List.length_append]
      have h1 := zRL_len P x2 x3 r
      have h2 := hP.2.2.2.2.2.2.1.2
      omega
    · unfold zBL; rw [List.append_nil]; exact hs
  | d + 1, r, f + 1, s, hr, hf, hs => by
    have hm := hP.2.1
    have hlv := hP.2.2.2.2.2.2.1.2
    have h5 := zlv_mono P (show r + 1 ≤ m by omega)
    have e5 : zlv P (r + 1) = zlv P r + if zga P 5 r = 0 then 0 else 1 := rfl
    have hl1 := zRL_len P x2 x3 r
    have hrow := hP.2.2.2.2.2.2.2.2.2.1 r (by omega)
    rw [fX7_gather_37, hP.2.2.2.2.1]
    simp (disch := omega) only [zI_le_f, if_false, eX5_isLive, zbs]
    have eRL : zRL P x2 x3 (r + 1) = zRL P x2 x3 r ++ zRw P x2 x3 r := rfl
    have skip : zRw P x2 x3 r = [] → ∃ s2, fX7_gather_89 P (fX7_gather_37 P f) s x2 x3 (zI r) = some s2 ∧ zLi s2 (B ++ zRL P x2 x3 m ++ zBL P n) := by
      intro he
      simp only [fX7_gather_89, zlet]
      rw [zn1, zI_add]
      refine zga_37 hP x2 x3 B hB d (r + 1) f s (by omega) (by omega) ?_
      rw [eRL, he, List.append_nil]
      exact hs
    by_cases c : zga P 5 r = 0
    · rw [if_pos c, if_pos rfl]
      exact skip (by unfold zRw; rw [if_pos c])
    · rw [if_neg c, if_neg (by decide)]
      rw [if_neg c] at e5
      by_cases c2 : ((x2 >>> (zI r &&& (31 : Int32))) &&& (1 : Int32)) = 0
      · rw [if_pos c2]
        simp (disch := omega) only [eX5_numberOf, zbs]
        have go : ∀ y, y = (if zI r = x3 then (1 : Int32) else 0) → ∃ s2, fX7_gather_85 P (fX7_gather_37 P f) s x2 x3 (zI r) (zI r) (zga P 4 r) y = some s2 ∧ zLi s2 (B ++ zRL P x2 x3 m ++ zBL P n) := by
          intro y hy
          have hnum : zab (zga P 4 r + y).toInt 100 := by
            have hy1 : zab y.toInt 1 := by
              rw [hy]
              split
              · show zab (1 : Int32).toInt 1
                rw [show (1 : Int32).toInt = 1 by decide]
                unfold zab; omega
              · rw [show (0 : Int32).toInt = 0 by decide]
                unfold zab; omega
            rw [z32add hrow.2.2 hy1 (by omega)]
            exact zab_add hrow.2.2 hy1
          obtain ⟨s2, f1, f2⟩ := eX7_putRow (r := r) (num := zga P 4 r + y) hs (by rw [List.length_append]; omega) (by omega) (fun i hi => (hrow.1 i hi).1) hrow.2.1 hnum
          simp only [fX7_gather_85, f1, zbs, fX7_gather_89, zlet]
          rw [zn1, zI_add]
          refine zga_37 hP x2 x3 B hB d (r + 1) f s2 (by omega) (by omega) ?_
          have e6 : zRw P x2 x3 r = zRS P (zga P 4 r + y) r := by
            unfold zRw zrnum
            rw [if_neg c, if_pos c2, hy]
          rw [eRL, e6, ← List.append_assoc]
          exact f2
        by_cases c3 : zI r = x3
        · rw [if_pos c3]
          exact go 1 (by rw [if_pos c3])
        · rw [if_neg c3]
          exact go 0 (by rw [if_neg c3])
      · rw [if_neg c2]
        exact skip (by unfold zRw; rw [if_neg c, if_neg c2])
theorem zga_8 {n m q : Nat} {P : zSt} (hP : zPw n m q P) (x2 x3 : Int32) {f : Nat} {s : zSt} (hs : zLi s []) : ∃ s2, fX7_gather_8 P (f + 4) s x2 x3 0 = some s2 ∧ zLi s2 (zGa P x2 x3 n m) := by
  have hb := hP.2.2.2.2.2.2.2.1
  have nl : ∀ i, i < 3 → (-zga P 0 i).toInt = -(zga P 0 i).toInt := fun i hi => z32neg (A := 50) (zab_of (by have := hb i hi; omega) (by have := hb i hi; omega)) (by omega)
  have o1 : (1 : Int32).toInt = 1 := by decide
  have o0 : (0 : Int32).toInt = 0 := by decide
  have a1 := zLi_app hs (by simp) 1 0 0 (-zga P 0 0) 0 false rfl
  have a2 := zLi_app a1 (by simp) 0 1 0 (-zga P 0 1) 0 false rfl
  have a3 := zLi_app a2 (by simp) 0 0 1 (-zga P 0 2) 0 false rfl
  have p1 := eX7_putBound (v := 0) (a := 1) (e := -zga P 0 0) hs.1 (by simp) (by omega)
  have p2 := eX7_putBound (v := 1) (a := 1) (e := -zga P 0 1) a1.1 (by simp) (by omega)
  have p3 := eX7_putBound (v := 2) (a := 1) (e := -zga P 0 2) a2.1 (by simp) (by omega)
  simp only [if_true, if_false, Nat.reduceEqDiff, show ((0 : Nat) = 1) = False by simp, show ((0 : Nat) = 2) = False by simp, show ((1 : Nat) = 0) = False by simp, show ((1 : Nat) = 2) = False by simp, show ((2 : Nat) = 0) = False by simp, show ((2 : Nat) = 1) = False by simp] at p1 p2 p3
  have s1 : zI 0 + 1 = zI 1 := by decide
  have s2 : zI 1 + 1 = zI 2 := by decide
  have s3 : zI 2 + 1 = zI 3 := by decide
  rw [zn0, fX7_gather_8]
  simp (disch := omega) only [zn3, zI_le_f, if_false, eX5_leastOf, zbs, p1, zlet, s1]
  rw [fX7_gather_8]
  simp (disch := omega) only [zn3, zI_le_f, if_false, eX5_leastOf, zbs, p2, zlet, s2]
  rw [fX7_gather_8]
  simp (disch := omega) only [zn3, zI_le_f, if_false, eX5_leastOf, zbs, p3, zlet, s3]
  rw [fX7_gather_8]
  simp (disch := omega) only [zn3, zI_le_t, if_true]
  rw [nl 0 (by omega), nl 1 (by omega), nl 2 (by omega), o1, o0] at a3
  obtain ⟨s2, f1, f2⟩ := zga_37 hP x2 x3 (zLL P) rfl m 0 6000 _ (by omega) (by have := hP.2.1; omega) (show zLi _ (zLL P ++ zRL P x2 x3 0) from by unfold zRL; rw [List.append_nil]; exact a3)
  exact ⟨s2, f1, f2⟩
theorem zGa_len {n m q : Nat} {P : zSt} (hP : zPw n m q P) (x2 x3 : Int32) : 3 ≤ (zGa P x2 x3 n m).length ∧ (zGa P x2 x3 n m).length ≤ 18 := by
  have h1 := zRL_len P x2 x3 m
  have h2 := zBL_len P n
  have h3 := hP.2.2.2.2.2.2.1.2
  have h4 := hP.1
  unfold zGa
  rw [List.length_append, List.length_append]
  have h5 : (zLL P).length = 3 := rfl
  omega
theorem eX7_gather {n m q : Nat} {P : zSt} (hP : zPw n m q P) (s : zSt) (x2 x3 : Int32) : ∃ s2, fX7_gather s P x2 x3 = some s2 ∧ zLi s2 (zGa P x2 x3 n m) := by
  unfold fX7_gather
  simp only [zlet]
  exact zga_8 hP x2 x3 (f := 5996) ⟨gi_si, fun k v hv => by cases hv⟩
