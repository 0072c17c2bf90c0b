/-! 60: the dictionary is begun as that of the basis of the least values; what the sides and goals are. -/
/-- the same as zlet's and bind's own, but no proof by rfl: the kernel would unfold loops to check it -/
theorem zlq {α β : Type} (x : α) (k : α → Option β) : zlet x k = k x := by
  have h : ∀ o, o = k x → zlet x k = o := fun o ho => by rw [ho]; rfl
  exact h _ rfl
theorem zbq {α β : Type} (a : α) (k : α → Option β) : (some a).bind k = k a := by
  have h : ∀ o, o = k a → (some a).bind k = o := fun o ho => by rw [ho]; rfl
  exact h _ rfl
def zSo (L : List (zV × Bool)) : Nat → zV := fun s => match L[s]? with
  | some v => v.1
  | none => (0, 0, 0, 0)
theorem zSo_some {L : List (zV × Bool)} {s : Nat} {v : zV × Bool} (h : L[s]? = some v) : zSo L s = v.1 := by
  unfold zSo
  rw [h]
theorem zSo_none {L : List (zV × Bool)} {s : Nat} (h : L[s]? = none) : zSo L s = (0, 0, 0, 0) := by
  unfold zSo
  rw [h]
def zGaim (P : zSt) (a : Nat) : zV :=
  ((zga P 7 a).toInt * (zga P 6 (a * 3 + 0)).toInt, (zga P 7 a).toInt * (zga P 6 (a * 3 + 1)).toInt, (zga P 7 a).toInt * (zga P 6 (a * 3 + 2)).toInt, -((zga P 7 a).toInt * (zga P 6 (a * 3 + 0)).toInt * (zga P 0 0).toInt + (zga P 7 a).toInt * (zga P 6 (a * 3 + 1)).toInt * (zga P 0 1).toInt + (zga P 7 a).toInt * (zga P 6 (a * 3 + 2)).toInt * (zga P 0 2).toInt))
def zGleast (P : zSt) (v : Nat) : zV := (if v = 0 then -1 else 0, if v = 1 then -1 else 0, if v = 2 then -1 else 0, (zga P 0 v).toInt)
def zGo (P : zSt) (q : Nat) (g : Nat) : zV := if g < q ∧ g < 3 then zGaim P g else if 3 ≤ g ∧ g < 6 then zGleast P (g - 3) else (0, 0, 0, 0)
theorem zini_c {P : zSt} {t : Nat → zV} (h0 : t 0 = (1, 0, 0, -(zga P 0 0).toInt)) (h1 : t 1 = (0, 1, 0, -(zga P 0 1).toInt)) (h2 : t 2 = (0, 0, 1, -(zga P 0 2).toInt)) (F : zV) {i : Nat} (hi : i < 4) : zdtr t = 1 ∧ zsc t = 1 ∧ zc t F i = zini P F i := by
  have hd : zdtr t = 1 := by
    unfold zdtr
    rw [h0, h1, h2]
    rfl
  have hs : zsg t = 1 := by
    unfold zsg
    rw [hd]
    rfl
  refine ⟨hd, by unfold zsc; rw [hs, hd]; rfl, ?_⟩
  unfold zc zM
  rw [hs, h0, h1, h2]
  obtain ⟨f0, f1, f2, f3⟩ := F
  rcases zlt4 hi with rfl | rfl | rfl | rfl <;> simp only [zN, zd4, zd3, zini] <;> grind
theorem zMemb {P : zSt} {x2 x3 : Int32} {n m : Nat} {s : Nat} {v : zV × Bool} (h : (zGa P x2 x3 n m)[s]? = some v) : (s = 0 ∧ v = ((1, 0, 0, -(zga P 0 0).toInt), false)) ∨ (s = 1 ∧ v = ((0, 1, 0, -(zga P 0 1).toInt), false)) ∨ (s = 2 ∧ v = ((0, 0, 1, -(zga P 0 2).toInt), false)) ∨ (3 ≤ s ∧ ((∃ r, r < m ∧ zgat P x2 r ∧ v ∈ zRS P (zrnum P x3 r) r) ∨ ∃ i, i < n ∧ ¬ (100 : Int32) ≤ zga P 1 i ∧ v = ((if i = 0 then -1 else 0, if i = 1 then -1 else 0, if i = 2 then -1 else 0, (zga P 1 i).toInt), false))) := by
  unfold zGa at h
  rw [List.append_assoc] at h
  by_cases c : s < 3
  · rw [List.getElem?_append_left (by exact c)] at h
    rcases zlt3 c with rfl | rfl | rfl
    · exact Or.inl ⟨rfl, (Option.some.inj h).symm⟩
    · exact Or.inr (Or.inl ⟨rfl, (Option.some.inj h).symm⟩)
    · exact Or.inr (Or.inr (Or.inl ⟨rfl, (Option.some.inj h).symm⟩))
  · rw [List.getElem?_append_right (by show 3 ≤ s; omega)] at h
    have h2 := List.mem_of_getElem? h
    rw [List.mem_append] at h2
    refine Or.inr (Or.inr (Or.inr ⟨by omega, ?_⟩))
    rcases h2 with h2 | h2
    · exact Or.inl (zRL_mem.mp h2)
    · exact Or.inr (zBL_mem.mp h2)
theorem zRS_mem {P : zSt} {num : Int32} {r : Nat} {v : zV × Bool} (h : v ∈ zRS P num r) : (zga P 3 r ≠ 62 ∧ v = ((-(zga P 2 (r * 3 + 0)).toInt, -(zga P 2 (r * 3 + 1)).toInt, -(zga P 2 (r * 3 + 2)).toInt, num.toInt), false)) ∨ (zga P 3 r ≠ 60 ∧ v = (((zga P 2 (r * 3 + 0)).toInt, (zga P 2 (r * 3 + 1)).toInt, (zga P 2 (r * 3 + 2)).toInt, -num.toInt), decide (zga P 3 r = 61))) := by
  unfold zRS at h
  rw [List.mem_append] at h
  rcases h with h | h
  · split at h
    · cases h
    · rename_i c
      exact Or.inl ⟨c, List.mem_singleton.mp h⟩
  · split at h
    · cases h
    · rename_i c
      exact Or.inr ⟨c, List.mem_singleton.mp h⟩
theorem zab0 (A : Nat) : zab 0 A := Nat.zero_le A
theorem zabd (c : Prop) [Decidable c] : zab (if c then (-1 : Int) else 0) 9 := by
  split <;> unfold zab <;> omega
theorem zab19 : zab 1 9 := by unfold zab; omega
theorem zvb0 : zvb (0, 0, 0, 0) := ⟨zab0 _, zab0 _, zab0 _, zab0 _⟩
theorem zrnum_b {n m q : Nat} {P : zSt} (hP : zPw n m q P) (x3 : Int32) {r : Nat} (hr : r < m) : zab (zrnum P x3 r).toInt 100 ∧ (zrnum P x3 r).toInt = (zga P 4 r).toInt + (if zI r = x3 then 1 else 0) := by
  have h := (hP.2.2.2.2.2.2.2.2.2.1 r hr).2.2
  unfold zrnum
  by_cases c : zI r = x3
  · rw [if_pos c, if_pos c]
    have h1 : zab (1 : Int32).toInt 1 := by rw [show (1 : Int32).toInt = 1 by decide]; unfold zab; omega
    have h2 := z32add h h1 (by omega)
    rw [show (1 : Int32).toInt = 1 by decide] at h2
    refine ⟨?_, h2⟩
    rw [h2]
    unfold zab at *
    omega
  · rw [if_neg c, if_neg c]
    have h1 : zab (0 : Int32).toInt 1 := by rw [show (0 : Int32).toInt = 0 by decide]; unfold zab; omega
    have h2 := z32add h h1 (by omega)
    rw [show (0 : Int32).toInt = 0 by decide] at h2
    refine ⟨?_, h2⟩
    rw [h2]
    unfold zab at *
    omega
theorem zGa_b {n m q : Nat} {P : zSt} (hP : zPw n m q P) (x2 x3 : Int32) (s : Nat) : zvb (zSo (zGa P x2 x3 n m) s) := by
  have hb := hP.2.2.2.2.2.2.2.1
  have l0 := hb 0 (by omega)
  have l1 := hb 1 (by omega)
  have l2 := hb 2 (by omega)
  cases h : (zGa P x2 x3 n m)[s]? with
  | none => rw [zSo_none h]; exact zvb0
  | some v =>
    rw [zSo_some h]
    rcases zMemb h with ⟨-, e⟩ | ⟨-, e⟩ | ⟨-, e⟩ | ⟨-, ⟨r, hr, -, hm⟩ | ⟨i, hi, hg, e⟩⟩
    · rw [e]
      exact ⟨zab19, zab0 _, zab0 _, by show zab (-(zga P 0 0).toInt) 1350; unfold zab; omega⟩
    · rw [e]
      exact ⟨zab0 _, zab19, zab0 _, by show zab (-(zga P 0 1).toInt) 1350; unfold zab; omega⟩
    · rw [e]
      exact ⟨zab0 _, zab0 _, zab19, by show zab (-(zga P 0 2).toInt) 1350; unfold zab; omega⟩
    · have hrow := hP.2.2.2.2.2.2.2.2.2.1 r hr
      have hn := (zrnum_b hP x3 hr).1
      rcases zRS_mem hm with ⟨-, e⟩ | ⟨-, e⟩
      · rw [e]
        exact ⟨zab_neg (hrow.1 0 (by omega)).1, zab_neg (hrow.1 1 (by omega)).1, zab_neg (hrow.1 2 (by omega)).1, zab_le hn (by omega)⟩
      · rw [e]
        exact ⟨(hrow.1 0 (by omega)).1, (hrow.1 1 (by omega)).1, (hrow.1 2 (by omega)).1, zab_le (zab_neg hn) (by omega)⟩
    · rw [e]
      have hn := hP.1
      have h2 := hb i (by omega)
      exact ⟨zabd _, zabd _, zabd _, by show zab (zga P 1 i).toInt 1350; unfold zab; omega⟩
theorem zGo_b {n m q : Nat} {P : zSt} (hP : zPw n m q P) (g : Nat) : zvb (zGo P q g) := by
  have hb := hP.2.2.2.2.2.2.2.1
  have lb : ∀ i, i < 3 → zab (zga P 0 i).toInt 50 := fun i hi => zab_of (by have := hb i hi; omega) (by have := hb i hi; omega)
  unfold zGo
  split
  · rename_i c
    have h11 := hP.2.2.2.2.2.2.2.2.2.2.1 g c.1
    have hd : zab (zga P 7 g).toInt 1 := by
      rcases h11.2 with e | e <;> rw [e]
      · rw [show (1 : Int32).toInt = 1 by decide]; unfold zab; omega
      · rw [show (-1 : Int32).toInt = -1 by decide]; unfold zab; omega
    have m0 := zab_mul hd (h11.1 0 (by omega)).1
    have m1 := zab_mul hd (h11.1 1 (by omega)).1
    have m2 := zab_mul hd (h11.1 2 (by omega)).1
    exact ⟨m0, m1, m2, zab_neg (zab_add (zab_add (zab_mul m0 (lb 0 (by omega))) (zab_mul m1 (lb 1 (by omega)))) (zab_mul m2 (lb 2 (by omega))))⟩
  · split
    · rename_i c
      exact ⟨zabd _, zabd _, zabd _, zab_le (lb (g - 3) (by omega)) (by omega)⟩
    · exact zvb0
theorem zGa_wf {n m q : Nat} {P : zSt} (hP : zPw n m q P) (x2 x3 : Int32) : zWf (zSo (zGa P x2 x3 n m)) (zGo P q) (zGa P x2 x3 n m).length := ⟨(zGa_len hP x2 x3).1, (zGa_len hP x2 x3).2, zGa_b hP x2 x3, zGo_b hP⟩
theorem zGa_ns {n m q : Nat} {P : zSt} (hP : zPw n m q P) (x2 x3 : Int32) : zNS (zSo (zGa P x2 x3 n m)) n := by
  intro s i hi hn hsi
  cases h : (zGa P x2 x3 n m)[s]? with
  | none =>
    rw [zSo_none h]
    rcases zlt3 hi with rfl | rfl | rfl <;> rfl
  | some v =>
    rw [zSo_some h]
    rcases zMemb h with ⟨rfl, e⟩ | ⟨rfl, e⟩ | ⟨rfl, e⟩ | ⟨-, ⟨r, hr, -, hm⟩ | ⟨k, hk, -, e⟩⟩
    · rw [e]; rcases zlt3 hi with rfl | rfl | rfl <;> first | rfl | exact absurd rfl hsi
    · rw [e]; rcases zlt3 hi with rfl | rfl | rfl <;> first | rfl | exact absurd rfl hsi
    · rw [e]; rcases zlt3 hi with rfl | rfl | rfl <;> first | rfl | exact absurd rfl hsi
    · have hz : (zga P 2 (r * 3 + i)).toInt = 0 := by
        rw [((hP.2.2.2.2.2.2.2.2.2.1 r hr).1 i hi).2 hn]; decide
      rcases zRS_mem hm with ⟨-, e⟩ | ⟨-, e⟩
      · rw [e]
        rcases zlt3 hi with rfl | rfl | rfl
        · show -(zga P 2 (r * 3 + 0)).toInt = 0; omega
        · show -(zga P 2 (r * 3 + 1)).toInt = 0; omega
        · show -(zga P 2 (r * 3 + 2)).toInt = 0; omega
      · rw [e]
        rcases zlt3 hi with rfl | rfl | rfl
        · exact hz
        · exact hz
        · exact hz
    · rw [e]
      rcases zlt3 hi with rfl | rfl | rfl
      · show (if k = 0 then (-1 : Int) else 0) = 0; rw [if_neg (by omega)]
      · show (if k = 1 then (-1 : Int) else 0) = 0; rw [if_neg (by omega)]
      · show (if k = 2 then (-1 : Int) else 0) = 0; rw [if_neg (by omega)]
theorem zGo_ns {n m q : Nat} {P : zSt} (hP : zPw n m q P) {g : Nat} (hg : g < 3 ∨ (3 ≤ g ∧ g < 3 + n)) : ∀ i, i < 3 → n ≤ i → zco (zGo P q g) i = 0 := by
  intro i hi hn
  unfold zGo
  split
  · rename_i c
    have hz : (zga P 7 g).toInt * (zga P 6 (g * 3 + i)).toInt = 0 := by
      rw [((hP.2.2.2.2.2.2.2.2.2.2.1 g c.1).1 i hi).2 hn, show (0 : Int32).toInt = 0 by decide, Int.mul_zero]
    rcases zlt3 hi with rfl | rfl | rfl
    · exact hz
    · exact hz
    · exact hz
  · split
    · rename_i c1 c
      have h3 := hP.1
      unfold zGleast
      rcases zlt3 hi with rfl | rfl | rfl
      · show (if g - 3 = 0 then (-1 : Int) else 0) = 0; rw [if_neg (by omega)]
      · show (if g - 3 = 1 then (-1 : Int) else 0) = 0; rw [if_neg (by omega)]
      · show (if g - 3 = 2 then (-1 : Int) else 0) = 0; rw [if_neg (by omega)]
    · rcases zlt3 hi with rfl | rfl | rfl <;> rfl
/-- on the way of the beginning: so many lines and goals stand -/
def zBg (P : zSt) (S : Nat → zV) (q cnt : Nat) (l g : Nat) (D : zSt) : Prop :=
  zgi D 3 = zI (cnt - 3) ∧ (∀ j, j < 3 → zga D 2 j = zI j) ∧ (∀ k, k < l → zga D 1 k = zI (3 + k)) ∧ zgl D 4 = 1 ∧ (∀ k, k < l → ∀ i, i < 4 → (zgb D 0 (k * 4 + i)).toInt = zini P (S (3 + k)) i) ∧ ∀ k, k < g → ∀ i, i < 4 → (zgb D 0 ((15 + k) * 4 + i)).toInt = zini P (zGo P q k) i
theorem zbg_101 {n m q cnt : Nat} {P s : zSt} {S : Nat → zV} (hP : zPw n m q P) (hc : cnt ≤ 18) : ∀ (d v f : Nat) (D : zSt), v + d = 3 → d < f → zBg P S q cnt (cnt - 3) (3 + v) D → ∃ E, fX1_begin_101 P s f D (zI v) = some E ∧ zBg P S q cnt (cnt - 3) 6 E
  | 0, v, f + 1, D, hv, hf, hD => by
    rw [fX1_begin_101]
    simp (disch := omega) only [zn3, zI_le_t, if_true]
    exact ⟨D, rfl, by rw [show 6 = 3 + v by omega]; exact hD⟩
  | d + 1, v, f + 1, D, hv, hf, hD => by
    rw [fX1_begin_101]
    simp (disch := omega) only [zn3, zI_le_f, if_false]
    obtain ⟨E, f1, f2, f3, f4, f5, f6⟩ := eX1_putLeastGoal_f (D := D) (a := v) (f := 5995) (by omega)
    unfold fX1_putLeastGoal
    rw [zn0, f1]
    simp only [zbq, zlq]
    rw [zn1, zI_add]
    refine zbg_101 hP hc d (v + 1) f E (by omega) (by omega) ?_
    obtain ⟨a1, a2, a3, a4, a5, a6⟩ := hD
    refine ⟨by rw [f2, a1], fun j hj => by rw [f4, a2 j hj], fun k hk => by rw [f4, a3 k hk], by rw [f3, a4], fun k hk i hi => by rw [f5 _ (by intro z hz; omega), a5 k hk i hi], fun k hk i hi => ?_⟩
    by_cases c : k = 3 + v
    · subst c
      have := f6 i hi
      rw [show (18 + v) = (15 + (3 + v)) by omega] at this
      rw [this]
      have e : zGo P q (3 + v) = zGleast P v := by
        unfold zGo
        have := hP.2.2.1
        rw [if_neg (by omega), if_pos (by omega), show 3 + v - 3 = v by omega]
      rw [e]
      have h3 : v < 3 := by omega
      unfold zGleast
      rcases zlt3 h3 with rfl | rfl | rfl <;> rcases zlt4 hi with rfl | rfl | rfl | rfl <;> simp only [zini] <;> simp <;> omega
    · rw [f5 _ (by intro z hz; omega), a6 k (by omega) i hi]
theorem zbg_82 {n m q cnt : Nat} {P s : zSt} {S : Nat → zV} (hP : zPw n m q P) (hc : cnt ≤ 18) : ∀ (d v f : Nat) (D : zSt), v + d = 3 → d < f → zBg P S q cnt (cnt - 3) v D → ∃ E, fX1_begin_82 P s f D (zI v) = some E ∧ zBg P S q cnt (cnt - 3) 6 E
  | 0, v, f + 1, D, hv, hf, hD => by
    rw [fX1_begin_82]
    simp (disch := omega) only [zn3, zI_le_t, if_true]
    rw [zn0]
    exact zbg_101 hP hc 3 0 6000 D (by omega) (by omega) (by rw [show 3 + 0 = v by omega]; exact hD)
  | d + 1, v, f + 1, D, hv, hf, hD => by
    rw [fX1_begin_82]
    simp (disch := omega) only [zn3, zI_le_f, if_false]
    obtain ⟨E, f1, f2, f3, f4, f5, f6⟩ := eX1_putAimGoal_f (D := D) (a := v) (f := 5996) hP (by omega)
    unfold fX1_putAimGoal
    rw [zn0, f1]
    simp only [zbq, zlq]
    rw [zn1, zI_add]
    refine zbg_82 hP hc d (v + 1) f E (by omega) (by omega) ?_
    obtain ⟨a1, a2, a3, a4, a5, a6⟩ := hD
    refine ⟨by rw [f2, a1], fun j hj => by rw [f4, a2 j hj], fun k hk => by rw [f4, a3 k hk], by rw [f3, a4], fun k hk i hi => by rw [f5 _ (by intro z hz; omega), a5 k hk i hi], fun k hk i hi => ?_⟩
    by_cases c : k = v
    · subst c
      rw [f6 i hi]
      unfold zGo
      show (if i < 3 ∧ k < q then (zga P 7 k).toInt * (zga P 6 (k * 3 + i)).toInt else 0) = _
      by_cases cq : k < q
      · rw [if_pos (show k < q ∧ k < 3 from ⟨cq, by omega⟩)]
        unfold zGaim
        rcases zlt4 hi with rfl | rfl | rfl | rfl
        · rw [if_pos (show 0 < 3 ∧ k < q from ⟨by omega, cq⟩)]; rfl
        · rw [if_pos (show 1 < 3 ∧ k < q from ⟨by omega, cq⟩)]; rfl
        · rw [if_pos (show 2 < 3 ∧ k < q from ⟨by omega, cq⟩)]; rfl
        · rw [if_neg (show ¬ (3 < 3 ∧ k < q) by omega)]
          simp only [zini]
          omega
      · rw [if_neg (show ¬ (i < 3 ∧ k < q) by omega), if_neg (show ¬ (k < q ∧ k < 3) by omega), if_neg (show ¬ (3 ≤ k ∧ k < 6) by omega)]
        rcases zlt4 hi with rfl | rfl | rfl | rfl <;> simp [zini]
    · rw [f5 _ (by intro z hz; omega), a6 k (by omega) i hi]
theorem zbg_41 {n m q : Nat} {P s : zSt} {L : List (zV × Bool)} (hP : zPw n m q P) (hL : zLi s L) (h3 : 3 ≤ L.length) (hc : L.length ≤ 18) (hb : ∀ k, zvb (zSo L k)) : ∀ (d l f : Nat) (D : zSt), l + d = L.length - 3 → d < f → zBg P (zSo L) q L.length l 0 D → ∃ E, fX1_begin_41 P s f D (zI l) = some E ∧ zBg P (zSo L) q L.length (L.length - 3) 6 E
  | 0, l, f + 1, D, hl, hf, hD => by
    rw [fX1_begin_41, hD.1]
    simp (disch := omega) only [zI_le_t, if_true, fX1_begin_80]
    rw [zn0]
    exact zbg_82 hP hc 3 0 6000 D (by omega) (by omega) (by rw [show L.length - 3 = l by omega]; exact hD)
  | d + 1, l, f + 1, D, hl, hf, hD => by
    have hb2 := hP.2.2.2.2.2.2.2.1
    have lb : ∀ i, i < 3 → zab (zga P 0 i).toInt 50 := fun i hi => zab_of (by have := hb2 i hi; omega) (by have := hb2 i hi; omega)
    rw [fX1_begin_41, hD.1]
    simp (disch := omega) only [zI_le_f, if_false, zn15, zin_zI, if_true, zlq, zI_nat]
    obtain ⟨v, hv⟩ : ∃ v, L[3 + l]? = some v := ⟨L[3 + l]'(by omega), List.getElem?_eq_getElem (by omega)⟩
    obtain ⟨g0, g1, g2, g3, -⟩ := hL.2 (3 + l) v hv
    have eS : zSo L (3 + l) = v.1 := zSo_some hv
    obtain ⟨E, f1, f2, f3, f4, f5, f6⟩ := eX1_putLine_f (D := zsa D 1 (upd (zga D 1) l ((3 : Int32) + zI l))) (P := P) (s := s) (l := l) (f := 5996) (F := v.1) (by omega) lb (by rw [← eS]; exact hb _) g0 g1 g2 (x5 := (zga s 1 (3 + l)).toInt64) (by rw [z32_64, g3])
    have e3 : (3 : Int32) + zI l = zI (3 + l) := by rw [zn3, zI_add]
    unfold fX1_putLine
    simp (disch := omega) only [zlq, e3, eX7_constantOf, zbq] at f1 ⊢
    rw [zn0, f1]
    simp only [zbq]
    rw [zn1, zI_add]
    refine zbg_41 hP hL h3 hc hb d (l + 1) f E (by omega) (by omega) ?_
    obtain ⟨a1, a2, a3, a4, a5, a6⟩ := hD
    refine ⟨by rw [f2, gi_sa, a1], fun j hj => by rw [f4, ga_san (by omega), a2 j hj], fun k hk => ?_, by rw [f3, gl_sa, a4], fun k hk i hi => ?_, fun k hk => by omega⟩
    · rw [f4, ga_sa]
      by_cases c : k = l
      · rw [upd_s c, e3, c]
      · rw [upd_n c, a3 k (by omega)]
    · by_cases c : k = l
      · subst c
        rw [f6 i hi, eS]
      · rw [f5 _ (by intro z hz; omega), gb_sa, a5 k (by omega) i hi]
theorem eX1_begin_17 {n m q f : Nat} {P s : zSt} {L : List (zV × Bool)} (hP : zPw n m q P) (hL : zLi s L) (h3 : 3 ≤ L.length) (hc : L.length ≤ 18) (hb : ∀ k, zvb (zSo L k)) {D : zSt} (d3 : zgi D 3 = zI (L.length - 3)) (d4 : zgl D 4 = 1) : ∃ E, fX1_begin_17 P s (f + 4) D (zI 0) = some E ∧ zBg P (zSo L) q L.length (L.length - 3) 6 E := by
  rw [fX1_begin_17]
  simp (disch := omega) only [zn3, zI_le_f, if_false, zin_zI, if_true, zlq, zI_nat, zs01]
  rw [fX1_begin_17]
  simp (disch := omega) only [zn3, zI_le_f, if_false, zin_zI, if_true, zlq, zI_nat, zs12]
  rw [fX1_begin_17]
  simp (disch := omega) only [zn3, zI_le_f, if_false, zin_zI, if_true, zlq, zI_nat, zs23]
  rw [fX1_begin_17]
  simp (disch := omega) only [zn3, zI_le_t, if_true]
  have st : ∀ E : zSt, E = zsa (zsa (zsa D 2 (upd (zga D 2) 0 (zI 0))) 2 (upd (zga (zsa D 2 (upd (zga D 2) 0 (zI 0))) 2) 1 (zI 1))) 2 (upd (zga (zsa (zsa D 2 (upd (zga D 2) 0 (zI 0))) 2 (upd (zga (zsa D 2 (upd (zga D 2) 0 (zI 0))) 2) 1 (zI 1))) 2) 2 (zI 2)) → zBg P (zSo L) q L.length 0 0 E := by
    intro E hE
    subst hE
    refine ⟨by simp only [gi_sa, d3], fun j hj => ?_, fun k hk => by omega, by simp only [gl_sa, d4], fun k hk => by omega, fun k hk => by omega⟩
    simp only [ga_sa]
    rcases zlt3 hj with rfl | rfl | rfl
    · rw [upd_n (by omega), upd_n (by omega), upd_s rfl]
    · rw [upd_n (by omega), upd_s rfl]
    · rw [upd_s rfl]
  exact zbg_41 hP hL h3 hc hb (L.length - 3) 0 6000 _ (by omega) (by omega) (st _ rfl)
theorem eX1_begin {n m q : Nat} {P s : zSt} {L : List (zV × Bool)} (hP : zPw n m q P) (hL : zLi s L) (h3 : 3 ≤ L.length) (hc : L.length ≤ 18) (hb : ∀ k, zvb (zSo L k)) (D : zSt) : ∃ E, fX1_begin D P s = some E ∧ zBg P (zSo L) q L.length (L.length - 3) 6 E := by
  have e3 : zgi s 3 - (3 : Int32) = zI (L.length - 3) := by rw [hL.1, zn3, zI_sub h3]
  unfold fX1_begin
  simp only [zlq, e3]
  exact eX1_begin_17 (f := 5996) hP hL h3 hc hb gi_si rfl
theorem zBg_dic {n m q : Nat} {P D : zSt} {x2 x3 : Int32} (hP : zPw n m q P) (h : zBg P (zSo (zGa P x2 x3 n m)) q (zGa P x2 x3 n m).length ((zGa P x2 x3 n m).length - 3) 6 D) : zDic (zSo (zGa P x2 x3 n m)) (zGo P q) (zGa P x2 x3 n m).length (fun j => j) (fun l => 3 + l) D := by
  have hl := zGa_len hP x2 x3
  have t0 : zT (zSo (zGa P x2 x3 n m)) (fun j => j) 0 = (1, 0, 0, -(zga P 0 0).toInt) := zSo_some (v := ((1, 0, 0, -(zga P 0 0).toInt), false)) (by unfold zGa; rw [List.append_assoc]; rfl)
  have t1 : zT (zSo (zGa P x2 x3 n m)) (fun j => j) 1 = (0, 1, 0, -(zga P 0 1).toInt) := zSo_some (v := ((0, 1, 0, -(zga P 0 1).toInt), false)) (by unfold zGa; rw [List.append_assoc]; rfl)
  have t2 : zT (zSo (zGa P x2 x3 n m)) (fun j => j) 2 = (0, 0, 1, -(zga P 0 2).toInt) := zSo_some (v := ((0, 0, 1, -(zga P 0 2).toInt), false)) (by unfold zGa; rw [List.append_assoc]; rfl)
  have hz := fun F i (hi : i < 4) => zini_c t0 t1 t2 F hi
  obtain ⟨a1, a2, a3, a4, a5, a6⟩ := h
  refine ⟨zGa_wf hP x2 x3, ⟨⟨by rw [(hz (0, 0, 0, 0) 0 (by omega)).1]; omega, fun j hj => by show j < _; omega⟩, fun l hl2 => by show 3 + l < _; omega, fun l hl2 => ?_, fun s hs => ?_, fun l k hl2 hk e => by have e2 : 3 + l = 3 + k := e; omega⟩, a1, a2, a3, ?_, fun r hr i hi => ?_⟩
  · rintro ⟨j, hj, e⟩
    have e2 : j = 3 + l := e
    omega
  · by_cases c : s < 3
    · exact Or.inl ⟨s, c, rfl⟩
    · exact Or.inr ⟨s - 3, by omega, by show 3 + (s - 3) = s; omega⟩
  · rw [a4, (hz (0, 0, 0, 0) 0 (by omega)).2.1]; decide
  · rw [(hz _ i hi).2.2]
    rcases hr with hr | ⟨hr, hr2⟩
    · rw [a5 r hr i hi]
      unfold zRow
      rw [if_pos (by omega)]
    · have := a6 (r - 15) (by omega) i hi
      rw [show 15 + (r - 15) = r by omega] at this
      rw [this]
      unfold zRow
      rw [if_neg (by omega)]
