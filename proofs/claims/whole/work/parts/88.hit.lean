/-! 88: one corner is the walk's point; the best corner has its values. -/
theorem zmir {n m : Nat} {P : zSt} {y2 y3 : Int32} {v : zV} (h : (v, true) ∈ zGa P y2 y3 n m) : (zneg v, false) ∈ zGa P y2 y3 n m := by
  rcases zGa_mem.mp h with h | ⟨r, hr, hg, h⟩ | ⟨i, hi, hg, h⟩
  · obtain ⟨i, hi, e⟩ := zLL_mem.mp h
    exact Bool.noConfusion (congrArg Prod.snd e)
  · rcases zRS_mem h with ⟨h2, e⟩ | ⟨h2, e⟩
    · exact Bool.noConfusion (congrArg Prod.snd e)
    · have e1 := congrArg Prod.fst e
      have e2 := congrArg Prod.snd e
      simp only [] at e1 e2
      have k : zga P 3 r = 61 := of_decide_eq_true e2.symm
      refine zGa_mem.mpr (Or.inr (Or.inl ⟨r, hr, hg, ?_⟩))
      unfold zRS
      rw [if_neg (by rw [k]; decide)]
      refine List.mem_append_left _ (List.mem_singleton.mpr ?_)
      rw [e1]
      unfold zneg
      simp
  · exact Bool.noConfusion (congrArg Prod.snd h)
theorem zclean {n m : Nat} {P s : zSt} {y2 y3 : Int32} (hL : zLi s (zGa P y2 y3 n m)) {k : Nat} (hk : k < (zGa P y2 y3 n m).length) : ∃ r, r < (zGa P y2 y3 n m).length ∧ zga s 2 r = 0 ∧ (zSo (zGa P y2 y3 n m) r = zSo (zGa P y2 y3 n m) k ∨ zSo (zGa P y2 y3 n m) r = zneg (zSo (zGa P y2 y3 n m) k)) := by
  have e := hL.2 k _ (List.getElem?_eq_getElem hk)
  have es := zSo_some (List.getElem?_eq_getElem hk)
  have hm := List.getElem_mem hk
  generalize (zGa P y2 y3 n m)[k] = v at *
  obtain ⟨v, b⟩ := v
  cases b with
  | false => exact ⟨k, hk, e.2.2.2.2, Or.inl rfl⟩
  | true =>
    obtain ⟨r, hr, er⟩ := List.getElem_of_mem (zmir hm)
    have e2 := hL.2 r (zneg v, false) (by rw [List.getElem?_eq_getElem hr, er])
    refine ⟨r, hr, e2.2.2.2.2, Or.inr ?_⟩
    rw [zSo_some (v := (zneg v, false)) (by rw [List.getElem?_eq_getElem hr, er]), es]
section ZHIT
variable {S : Nat → zV} {cnt : Nat} {s : zSt} {o : Nat → Nat} {i j k : Nat}
theorem zHit_12 (h : zHit S cnt s o i j k) : zHit S cnt s o j i k := by
  obtain ⟨⟨a1, a2, a3⟩, ⟨b1, b2, b3⟩, c, d⟩ := h
  refine ⟨⟨a2, a1, a3⟩, ⟨b2, b1, b3⟩, fun e => c ?_, fun Y h1 h2 h3 => d Y h2 h1 h3⟩
  have := zd3_12 (S i) (S j) (S k)
  omega
theorem zHit_23 (h : zHit S cnt s o i j k) : zHit S cnt s o i k j := by
  obtain ⟨⟨a1, a2, a3⟩, ⟨b1, b2, b3⟩, c, d⟩ := h
  refine ⟨⟨a1, a3, a2⟩, ⟨b1, b3, b2⟩, fun e => c ?_, fun Y h1 h2 h3 => d Y h1 h3 h2⟩
  have := zd3_23 (S i) (S j) (S k)
  omega
theorem zHit_ne (h : zHit S cnt s o i j k) : i ≠ j := by
  intro e
  subst e
  have := zd3_12 (S i) (S i) (S k)
  have := h.2.2.1
  omega
theorem zHit_sort (h : zHit S cnt s o i j k) : ∃ a b c, a < b ∧ b < c ∧ zHit S cnt s o a b c := by
  have n1 := zHit_ne h
  have n2 := zHit_ne (zHit_23 h)
  have n3 := zHit_ne (zHit_23 (zHit_12 h))
  by_cases c1 : i < j
  · by_cases c2 : j < k
    · exact ⟨i, j, k, c1, c2, h⟩
    · by_cases c3 : i < k
      · exact ⟨i, k, j, c3, by omega, zHit_23 h⟩
      · exact ⟨k, i, j, by omega, c1, zHit_12 (zHit_23 h)⟩
  · by_cases c2 : i < k
    · exact ⟨j, i, k, by omega, c2, zHit_12 h⟩
    · by_cases c3 : j < k
      · exact ⟨j, k, i, c3, by omega, zHit_23 (zHit_12 h)⟩
      · exact ⟨k, j, i, by omega, by omega, zHit_12 (zHit_23 (zHit_12 h))⟩
end ZHIT
theorem zneg_0 {u v Y : zV} (h : u = v ∨ u = zneg v) (e : zev u Y = 0) : zev v Y = 0 := by
  rcases h with h | h
  · rw [← h]; exact e
  · rw [h, zev_zneg] at e; omega
theorem zd3_sg {u v w u2 v2 w2 : zV} (h1 : u2 = u ∨ u2 = zneg u) (h2 : v2 = v ∨ v2 = zneg v) (h3 : w2 = w ∨ w2 = zneg w) (h : zd3 u v w ≠ 0) : zd3 u2 v2 w2 ≠ 0 := by
  have a : ∀ x, (x = u ∨ x = zneg u) → zd3 x v w ≠ 0 := fun x hx => by
    rcases hx with e | e <;> rw [e]
    · exact h
    · rw [zd3_n1]; omega
  have b : ∀ y, (y = v ∨ y = zneg v) → zd3 u2 y w ≠ 0 := fun y hy => by
    rcases hy with e | e <;> rw [e]
    · exact a u2 h1
    · rw [zd3_n2]; have := a u2 h1; omega
  rcases h3 with e | e <;> rw [e]
  · exact b v2 h2
  · rw [zd3_n3]; have := b v2 h2; omega
theorem zhit_ex {n m : Nat} {P s : zSt} {o : Nat → Nat} (hL : zLi s (zGa P 0 (-1) n m)) (ho : zok (zSo (zGa P 0 (-1) n m)) (zGa P 0 (-1) n m).length o) : ∃ a b c, a < b ∧ b < c ∧ zHit (zSo (zGa P 0 (-1) n m)) (zGa P 0 (-1) n m).length s o a b c := by
  obtain ⟨r0, p0, q0, s0⟩ := zclean hL (ho.2 0 (by omega))
  obtain ⟨r1, p1, q1, s1⟩ := zclean hL (ho.2 1 (by omega))
  obtain ⟨r2, p2, q2, s2⟩ := zclean hL (ho.2 2 (by omega))
  have hd : zd3 (zSo (zGa P 0 (-1) n m) (o 0)) (zSo (zGa P 0 (-1) n m) (o 1)) (zSo (zGa P 0 (-1) n m) (o 2)) ≠ 0 := ho.1
  refine zHit_sort (i := r0) (j := r1) (k := r2) ⟨⟨q0, q1, q2⟩, ⟨p0, p1, p2⟩, zd3_sg s0 s1 s2 hd, fun Y h0 h1 h2 c hc => ?_⟩
  rcases zlt3 hc with rfl | rfl | rfl
  · exact zneg_0 s0 h0
  · exact zneg_0 s1 h1
  · exact zneg_0 s2 h2
/-- the corners, when the walk has found the best point -/
theorem eX0_look {n m q : Nat} {P W s D Q C B K : zSt} {o ins : Nat → Nat} (hP : zPw n m q P) (hW : zWk n m q P W s D Q o ins) (h5 : zgi W 5 = 111) (hc : zgi C 5 = 0) : ∃ C2 B2 K2 Y, fX0_look C P s B K = some (C2, B2, K2) ∧ zQp B2 Y ∧ zBd Y ∧ zeqa P q Y (zXb (zT (zSo (zGa P 0 (-1) n m)) o)) := by
  obtain ⟨hL, hF | hF⟩ := hW
  · have hS := zLi_sd hP hL
    have hb := zDic_bd hF.1
    have hfe := hF.2.2.1
    have hXf : zfeas (zSo (zGa P 0 (-1) n m)) (zGa P 0 (-1) n m).length (zXb (zT (zSo (zGa P 0 (-1) n m)) o)) := ⟨Int.le_of_lt hb.2.1, fun s hs => by rw [zXb_ev]; exact hfe s hs⟩
    obtain ⟨a, b, c, h1, h2, h3⟩ := zhit_ex hL hF.1.2.1.1
    obtain ⟨C2, B2, K2, g1, g2⟩ := zlook_7 hP hS hb.2.1 hXf (fun Y hY => zopt hP hF h5 hY) (zGa P 0 (-1) n m).length 0 6000 (zsi (zsi C 5 1) 4 0) B K False (by omega) (by have := hS.1; omega) ⟨Or.inl gi_si, fun h => by rw [gi_si] at h; exact absurd h (by decide), fun h => h.elim⟩
    have hit : False ∨ ∃ u r t, 0 ≤ u ∧ u < r ∧ r < t ∧ zHit (zSo (zGa P 0 (-1) n m)) (zGa P 0 (-1) n m).length s o u r t := Or.inr ⟨a, b, c, by omega, h1, h2, h3⟩
    obtain ⟨Y, y1, y2, y3, y4⟩ := g2.2.1 (g2.2.2 hit)
    refine ⟨C2, B2, K2, Y, ?_, y1, y2, y4 hit⟩
    unfold fX0_look
    rw [if_pos hc, zlq, zlq]
    exact g1
  · rcases hF.2.2.2 with ⟨h1, -⟩ | ⟨-, h1, -⟩
    · exact absurd h1 (by decide)
    · rw [h5] at h1; exact absurd h1 (by decide)
