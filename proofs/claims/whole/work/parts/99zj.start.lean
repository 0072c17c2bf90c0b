/-! 99zj: what holds at the law's entry. Written by wip/gen/mklaw6.py. -/
section ZSTART
variable {s : State} {args : Array Value}
theorem zst_W (hts : ∀ w ∈ lw_tbl, w.before args s = true) : ∀ w ∈ zW, w.before args s = true := by
  intro w hw
  rcases List.mem_cons.mp (List.mem_filter.mp hw).1 with h | h
  · rw [h]
    have ht : ∀ v ∈ tables_1, v.before args s = true := fun v hv => hts v (List.mem_append_right _ hv)
    exact zselUp (CR := RJ4) (y := yJ5_ensureCapacityInternal_d00df) (y2 := yJ5_isLatin1_aae02) (n := 4) ⟨by decide, by decide⟩ (ht _ (List.mem_of_getElem? (i := 1607) (by decide +kernel))) (ht _ (List.mem_of_getElem? (i := 1644) (by decide +kernel))) (ht _ (List.mem_of_getElem? (i := 1645) (by decide +kernel))) (ht _ (List.mem_of_getElem? (i := 1679) (by decide +kernel))) (ht _ (List.mem_of_getElem? (i := 1681) (by decide +kernel))) rfl
  · exact hts w h
theorem zst_cl (hW : ∀ w ∈ zW, w.before args s = true) : ∃ D : va_G, ∀ (c : Nat) (q : vw_C), vwCl[c]? = some q → u_Kn s q.1 q.2.1 q.2.2 (D.1 c) (D.2 c) := by
  obtain ⟨c0, i0, h0⟩ := u_known (C := RJ4) (T := TJ4) (N := 4) (n := 4) hW ziJ4 (hW _ (zW_tab (List.mem_of_getElem? (i := 1607) (by decide +kernel)) (by decide +kernel)))
  obtain ⟨c1, i1, h1⟩ := u_known (C := RX0) (T := TX0) (N := 6) (n := 6) hW ziX0 (hW _ (zW_tab (List.mem_of_getElem? (i := 300) (by decide +kernel)) (by decide +kernel)))
  obtain ⟨c2, i2, h2⟩ := u_known (C := RX1) (T := TX1) (N := 5) (n := 5) hW ziX1 (hW _ (zW_tab (List.mem_of_getElem? (i := 187) (by decide +kernel)) (by decide +kernel)))
  obtain ⟨c3, i3, h3⟩ := u_known (C := RX2) (T := TX2) (N := 2) (n := 2) hW ziX2 (hW _ (zW_tab (List.mem_of_getElem? (i := 356) (by decide +kernel)) (by decide +kernel)))
  obtain ⟨c4, i4, h4⟩ := u_known (C := RX3) (T := TX3) (N := 2) (n := 2) hW ziX3 (hW _ (zW_tab (List.mem_of_getElem? (i := 145) (by decide +kernel)) (by decide +kernel)))
  obtain ⟨c5, i5, h5⟩ := u_known (C := RX4) (T := TX4) (N := 3) (n := 3) hW ziX4 (hW _ (zW_tab (List.mem_of_getElem? (i := 213) (by decide +kernel)) (by decide +kernel)))
  obtain ⟨c6, i6, h6⟩ := u_known (C := RX5) (T := TX5) (N := 12) (n := 12) hW ziX5 (hW _ (zW_tab (List.mem_of_getElem? (i := 44) (by decide +kernel)) (by decide +kernel)))
  obtain ⟨c7, i7, h7⟩ := u_known (C := RX6) (T := TX6) (N := 4) (n := 4) hW ziX6 (hW _ (zW_tab (List.mem_of_getElem? (i := 281) (by decide +kernel)) (by decide +kernel)))
  obtain ⟨c8, i8, h8⟩ := u_known (C := RX7) (T := TX7) (N := 4) (n := 4) hW ziX7 (hW _ (zW_tab (List.mem_of_getElem? (i := 165) (by decide +kernel)) (by decide +kernel)))
  obtain ⟨c9, i9, h9⟩ := u_known (C := RX8) (T := TX8) (N := 10) (n := 10) hW ziX8 (hW _ (zW_tab (List.mem_of_getElem? (i := 102) (by decide +kernel)) (by decide +kernel)))
  obtain ⟨c10, i10, h10⟩ := u_known (C := RX9) (T := TX9) (N := 10) (n := 10) hW ziX9 (hW _ (zW_tab (List.mem_of_getElem? (i := 159) (by decide +kernel)) (by decide +kernel)))
  obtain ⟨c11, i11, h11⟩ := u_known (C := RX10) (T := TX10) (N := 5) (n := 5) hW ziX10 (hW _ (zW_tab (List.mem_of_getElem? (i := 329) (by decide +kernel)) (by decide +kernel)))
  obtain ⟨c12, i12, h12⟩ := u_known (C := RX11) (T := TX11) (N := 10) (n := 10) hW ziX11 (hW _ (zW_tab (List.mem_of_getElem? (i := 36) (by decide +kernel)) (by decide +kernel)))
  obtain ⟨c13, i13, h13⟩ := u_known (C := RX12) (T := TX12) (N := 40) (n := 40) hW ziX12 (hW _ (zW_tab (List.mem_of_getElem? (i := 1331) (by decide +kernel)) (by decide +kernel)))
  refine ⟨(fun k => [c0, c1, c2, c3, c4, c5, c6, c7, c8, c9, c10, c11, c12, c13].getD k c0, fun k => [i0, i1, i2, i3, i4, i5, i6, i7, i8, i9, i10, i11, i12, i13].getD k i0), fun c q hq => ?_⟩
  match c, hq with
  | 0, hq => cases hq; exact h0
  | 1, hq => cases hq; exact h1
  | 2, hq => cases hq; exact h2
  | 3, hq => cases hq; exact h3
  | 4, hq => cases hq; exact h4
  | 5, hq => cases hq; exact h5
  | 6, hq => cases hq; exact h6
  | 7, hq => cases hq; exact h7
  | 8, hq => cases hq; exact h8
  | 9, hq => cases hq; exact h9
  | 10, hq => cases hq; exact h10
  | 11, hq => cases hq; exact h11
  | 12, hq => cases hq; exact h12
  | 13, hq => cases hq; exact h13
  | c + 14, hq => simp [vwCl] at hq
theorem zst_ar {ty : FieldType} (h : (Cond.arrayClass ty).before args s = true) : ∃ cA : ClassId, ArrOfT s cA ty ∧ s.vm.findClass ("[" ++ ty.toString) = some cA := by
  obtain ⟨c, k, comp, h1, h2, h3⟩ := Cond.arrayClass_spec h
  exact ⟨c, fun n z => ⟨(fun k h => by cases h), k, h2, comp, h3⟩, h1⟩
theorem zst_ao {C : String} (h : (Cond.arrayOver (.object C)).before args s = true) : ∃ cA : ClassId, ArrOfT s cA (.object C) ∧ va_RA s cA (.object C) := by
  obtain ⟨comp, c, k, h1, -, h3, h4, h5⟩ := Cond.arrayOver_spec h
  exact ⟨c, fun n z => ⟨(fun k h => by cases h), k, h3, comp, h4⟩, k, comp, h3, h4, h1, h5⟩
theorem zst_K (hW : ∀ w ∈ zW, w.before args s = true) (hO : (Cond.arrayOver (.object RX4)).before args s = true) : ∃ (D : va_G) (T : Nat → ClassId), va_K D vwCl (zTY T) s := by
  obtain ⟨D, hD⟩ := zst_cl hW
  obtain ⟨t0, a0, b0⟩ := zst_ar (ty := .char) (hW _ (zW_tab (List.mem_of_getElem? (i := 99) (by decide +kernel)) (by decide +kernel)))
  obtain ⟨t1, a1, b1⟩ := zst_ar (ty := .int) (hW _ (zW_tab (List.mem_of_getElem? (i := 98) (by decide +kernel)) (by decide +kernel)))
  obtain ⟨t2, a2, b2⟩ := zst_ar (ty := .long) (hW _ (zW_tab (List.mem_of_getElem? (i := 211) (by decide +kernel)) (by decide +kernel)))
  obtain ⟨t3, a3, b3⟩ := zst_ar (ty := .boolean) (hW _ (zW_tab (List.mem_of_getElem? (i := 100) (by decide +kernel)) (by decide +kernel)))
  obtain ⟨t4, a4, b4⟩ := zst_ao hO
  obtain ⟨t5, a5, b5⟩ := zst_ar (ty := .double) (hW _ (zW_tab (List.mem_of_getElem? (i := 1988) (by decide +kernel)) (by decide +kernel)))
  obtain ⟨t6, a6, b6⟩ := zst_ar (ty := .byte) (hW _ (zW_tab (List.mem_of_getElem? (i := 825) (by decide +kernel)) (by decide +kernel)))
  refine ⟨D, fun k => [t0, t1, t2, t3, t4, t5, t6].getD k t0, hD, fun k q hq => ?_⟩
  match k, hq with
  | 0, hq => cases hq; exact ⟨a0, b0⟩
  | 1, hq => cases hq; exact ⟨a1, b1⟩
  | 2, hq => cases hq; exact ⟨a2, b2⟩
  | 3, hq => cases hq; exact ⟨a3, b3⟩
  | 4, hq => cases hq; exact ⟨a4, b4⟩
  | 5, hq => cases hq; exact ⟨a5, b5⟩
  | 6, hq => cases hq; exact ⟨a6, b6⟩
  | k + 7, hq => simp [zTY] at hq
def zcix : List (String × String × Nat) := [("java/lang/IllegalArgumentException", "java/lang/IllegalStateException", 248), ("java/lang/IllegalArgumentException", "java/lang/IndexOutOfBoundsException", 266), ("java/lang/IllegalArgumentException", "java/util/NoSuchElementException", 284), ("java/lang/IllegalArgumentException", "java/lang/UnsupportedOperationException", 302), ("java/lang/IllegalStateException", "java/lang/IllegalArgumentException", 230), ("java/lang/IllegalStateException", "java/lang/IndexOutOfBoundsException", 267), ("java/lang/IllegalStateException", "java/util/NoSuchElementException", 285), ("java/lang/IllegalStateException", "java/lang/UnsupportedOperationException", 303), ("java/lang/IndexOutOfBoundsException", "java/lang/IllegalArgumentException", 231), ("java/lang/IndexOutOfBoundsException", "java/lang/IllegalStateException", 249), ("java/lang/IndexOutOfBoundsException", "java/util/NoSuchElementException", 286), ("java/lang/IndexOutOfBoundsException", "java/lang/UnsupportedOperationException", 304), ("java/util/NoSuchElementException", "java/lang/IllegalArgumentException", 232), ("java/util/NoSuchElementException", "java/lang/IllegalStateException", 250), ("java/util/NoSuchElementException", "java/lang/IndexOutOfBoundsException", 268), ("java/util/NoSuchElementException", "java/lang/UnsupportedOperationException", 305), ("java/lang/UnsupportedOperationException", "java/lang/IllegalArgumentException", 233), ("java/lang/UnsupportedOperationException", "java/lang/IllegalStateException", 251), ("java/lang/UnsupportedOperationException", "java/lang/IndexOutOfBoundsException", 269), ("java/lang/UnsupportedOperationException", "java/util/NoSuchElementException", 287)]
def zpre : Cond := Jvm.Cond.and given_1 narrow_1
theorem zst_N (h : zpre.before args s = true) : zNC s := by
  have hs := flat_of_before _ h
  have h1 : ∀ p ∈ zcix, (flatC zpre)[p.2.2]? = some (Cond.not (Cond.castable p.1 p.2.1)) := by decide +kernel
  have h2 : ∀ E ∈ zE5, ∀ N ∈ zE5, E ≠ N → zcix.any (fun p => p.1 == E && p.2.1 == N) = true := by decide +kernel
  intro E hE N hN hne
  obtain ⟨p, hp, e⟩ := List.any_eq_true.mp (h2 E hE N hN hne)
  simp only [Bool.and_eq_true, beq_iff_eq] at e
  have h3 := List.mem_of_getElem? (h1 p hp)
  rw [e.1, e.2] at h3
  exact va_Nc.of (hs _ h3)
theorem zst_E (hts : ∀ w ∈ lw_tbl, w.before args s = true) : zEx s := fun w hw => va_Nw.of (zisN_tab hw) (hts w (List.mem_append_right _ (List.mem_filter.mp hw).1))
theorem zst_F (hts : ∀ w ∈ lw_tbl, w.before args s = true) {D : va_G} {T : Nat → ClassId} (hK : va_K D vwCl (zTY T) s) : zEF s := by
  have ht : ∀ v ∈ tables_1, v.before args s = true := fun v hv => hts v (List.mem_append_right _ hv)
  refine ⟨fun w hw => ?_, fun own k tx h => ?_⟩
  · have h2 := List.mem_filter.mp hw
    have h3 := h2.2
    simp only [Bool.and_eq_true] at h3
    exact va_tabs h3.1 rfl (ht w h2.1)
  · have ho : own = RX11 := by
      have hm : ∀ w ∈ tables_1, (match w with | .stringRef o _ _ => o == RX11 | _ => true) = true := List.all_eq_true.mp (show tables_1.all (fun w => match w with | .stringRef o _ _ => o == RX11 | _ => true) = true by decide +kernel)
      have := hm _ h
      simpa using this
    subst ho
    have hcl := (hK.1 12 _ rfl).2.1
    obtain ⟨kk, cf, i, a, -, -, -, -, -, he⟩ := Cond.stringRef_spec hcl (ht _ h)
    exact ⟨a, vk_R.of (ht _ h) he⟩
theorem zst_T (hts : ∀ w ∈ lw_tbl, w.before args s = true) (h : zpre.before args s = true) : zTh s.heap.size s s.heap := by
  have ht : ∀ v ∈ tables_1, v.before args s = true := fun v hv => hts v (List.mem_append_right _ hv)
  have hs := flat_of_before _ h
  have hA : ∀ a : Nat, a < s.heap.size → ¬ s.heap.size ≤ a := fun a ha => Nat.not_le.mpr ha
  exact ⟨vx_Zqof (ht _ (List.mem_of_getElem? (i := 783) (by decide +kernel))) (ht _ (List.mem_of_getElem? (i := 14) (by decide +kernel))) (hs _ (List.mem_of_getElem? (i := 4) (by decide +kernel))) hA, vx_Zqof (ht _ (List.mem_of_getElem? (i := 785) (by decide +kernel))) (ht _ (List.mem_of_getElem? (i := 14) (by decide +kernel))) (hs _ (List.mem_of_getElem? (i := 5) (by decide +kernel))) hA⟩
theorem zst_lDigitOnes : ((flatC zpre).drop 14).take 100 = (List.range 100).map (fun j => Cond.eq (.elem (.static "java/lang/Integer" "DigitOnes" "[B") (.int (Int32.ofNat j))) (.int (Int32.ofNat (48 + j % 10)))) := by decide +kernel
theorem zst_DigitOnes (hts : ∀ w ∈ lw_tbl, w.before args s = true) (h : zpre.before args s = true) : ∃ t : Nat, va_Z RJ6 "DigitOnes" "[B" (.ref t) (fun q => s.heap.size ≤ q) s s.heap ∧ va_T .byte t 100 zdo (fun q => s.heap.size ≤ q) s s.heap := by
  have ht : ∀ v ∈ tables_1, v.before args s = true := fun v hv => hts v (List.mem_append_right _ hv)
  have hs := flat_of_before _ h
  have hA : ∀ a : Nat, a < s.heap.size → ¬ s.heap.size ≤ a := fun a ha => Nat.not_le.mpr ha
  have hm : ∀ j : Nat, j < 100 → Cond.eq (.elem (.static "java/lang/Integer" "DigitOnes" "[B") (.int (Int32.ofNat j))) (.int (Int32.ofNat (48 + j % 10))) ∈ flatC zpre := fun j hj => by
    have h1 : Cond.eq (.elem (.static "java/lang/Integer" "DigitOnes" "[B") (.int (Int32.ofNat j))) (.int (Int32.ofNat (48 + j % 10))) ∈ ((flatC zpre).drop 14).take 100 := by
      rw [zst_lDigitOnes]
      exact List.mem_map.mpr ⟨j, List.mem_range.mpr hj, rfl⟩
    exact List.mem_of_mem_drop (List.mem_of_mem_take h1)
  obtain ⟨t, h1, h2⟩ := va_Tof (tm := .static "java/lang/Integer" "DigitOnes" "[B") (ty := .byte) (N := 100) (f := zdo) (A := fun q => s.heap.size ≤ q) (by decide) (hs _ (List.mem_of_getElem? (i := 12) (by decide +kernel))) (va_eqt (z := 100) (hs _ (List.mem_of_getElem? (i := 13) (by decide +kernel)))) (fun j hj => va_eqt (hs _ (hm j hj))) hA
  exact ⟨t, va_Zof (ht _ (List.mem_of_getElem? (i := 1752) (by decide +kernel))) (ht _ (List.mem_of_getElem? (i := 33) (by decide +kernel))) h1 hA, h2⟩
theorem zst_lDigitTens : ((flatC zpre).drop 117).take 100 = (List.range 100).map (fun j => Cond.eq (.elem (.static "java/lang/Integer" "DigitTens" "[B") (.int (Int32.ofNat j))) (.int (Int32.ofNat (48 + j / 10)))) := by decide +kernel
theorem zst_DigitTens (hts : ∀ w ∈ lw_tbl, w.before args s = true) (h : zpre.before args s = true) : ∃ t : Nat, va_Z RJ6 "DigitTens" "[B" (.ref t) (fun q => s.heap.size ≤ q) s s.heap ∧ va_T .byte t 100 zdt (fun q => s.heap.size ≤ q) s s.heap := by
  have ht : ∀ v ∈ tables_1, v.before args s = true := fun v hv => hts v (List.mem_append_right _ hv)
  have hs := flat_of_before _ h
  have hA : ∀ a : Nat, a < s.heap.size → ¬ s.heap.size ≤ a := fun a ha => Nat.not_le.mpr ha
  have hm : ∀ j : Nat, j < 100 → Cond.eq (.elem (.static "java/lang/Integer" "DigitTens" "[B") (.int (Int32.ofNat j))) (.int (Int32.ofNat (48 + j / 10))) ∈ flatC zpre := fun j hj => by
    have h1 : Cond.eq (.elem (.static "java/lang/Integer" "DigitTens" "[B") (.int (Int32.ofNat j))) (.int (Int32.ofNat (48 + j / 10))) ∈ ((flatC zpre).drop 117).take 100 := by
      rw [zst_lDigitTens]
      exact List.mem_map.mpr ⟨j, List.mem_range.mpr hj, rfl⟩
    exact List.mem_of_mem_drop (List.mem_of_mem_take h1)
  obtain ⟨t, h1, h2⟩ := va_Tof (tm := .static "java/lang/Integer" "DigitTens" "[B") (ty := .byte) (N := 100) (f := zdt) (A := fun q => s.heap.size ≤ q) (by decide) (hs _ (List.mem_of_getElem? (i := 115) (by decide +kernel))) (va_eqt (z := 100) (hs _ (List.mem_of_getElem? (i := 116) (by decide +kernel)))) (fun j hj => va_eqt (hs _ (hm j hj))) hA
  exact ⟨t, va_Zof (ht _ (List.mem_of_getElem? (i := 1754) (by decide +kernel))) (ht _ (List.mem_of_getElem? (i := 33) (by decide +kernel))) h1 hA, h2⟩
theorem zst_S (hts : ∀ w ∈ lw_tbl, w.before args s = true) (h : zpre.before args s = true) : zSs s.heap.size s s.heap := by
  have ht : ∀ v ∈ tables_1, v.before args s = true := fun v hv => hts v (List.mem_append_right _ hv)
  have hs := flat_of_before _ h
  have hA : ∀ a : Nat, a < s.heap.size → ¬ s.heap.size ≤ a := fun a ha => Nat.not_le.mpr ha
  exact ⟨va_Zof (ht _ (List.mem_of_getElem? (i := 1616) (by decide +kernel))) (ht _ (List.mem_of_getElem? (i := 24) (by decide +kernel))) (va_eqi (hs _ (List.mem_of_getElem? (i := 6) (by decide +kernel)))) hA, va_Zqof (ht _ (List.mem_of_getElem? (i := 1706) (by decide +kernel))) (ht _ (List.mem_of_getElem? (i := 31) (by decide +kernel))) (hs _ (List.mem_of_getElem? (i := 7) (by decide +kernel))) hA, zst_DigitOnes hts h, zst_DigitTens hts h⟩
theorem zst_fl {l : Launch} (h : l.flags = flags0) : l.stackTraces = false := by
  unfold Launch.stackTraces
  rw [h]
  decide +kernel
end ZSTART
/-- a number of 6 bits -/
theorem zand63 (x : Int32) : ∃ k, k < 64 ∧ x &&& (63 : Int32) = zI k := by
  refine ⟨x.toBitVec.toNat % 64, Nat.mod_lt _ (by omega), ?_⟩
  have e : ∀ k, k < 64 → (zI k).toBitVec.toNat = k := by decide +kernel
  apply Int32.toBitVec.inj
  apply BitVec.eq_of_toNat_eq
  rw [e _ (Nat.mod_lt _ (by omega))]
  show (x.toBitVec &&& (63 : Int32).toBitVec).toNat = _
  rw [BitVec.toNat_and]
  show x.toBitVec.toNat &&& 63 = x.toBitVec.toNat % 64
  exact Nat.and_two_pow_sub_one_eq_mod x.toBitVec.toNat 6
theorem zlen3 {L i : Nat} (hL : L ≤ 1536) (hi : i ≤ 1536) : (Int32.ofNat L - (3 : Int32) < zI i) ↔ L < i + 3 := by
  have h3 : (3 : Int32).toInt = 3 := by decide
  have e := z32sub (a := zI L) (b := (3 : Int32)) (A := 1536) (B := 3) (by rw [zI_toInt (by omega)]; exact zab_of (by omega) (by omega)) (by rw [h3]; exact zab_of (by omega) (by omega)) (by omega)
  rw [show Int32.ofNat L = zI L from rfl, z32lt, e, zI_toInt (by omega), h3, zI_toInt (by omega)]
  omega
section ZLOOP
variable {C : zCtx} {base b L : Nat} {xs : Nat → Int32} {α : Nat → Nat → Nat}
theorem zlaw_loop (K : zLc C base b L xs) (hL : L ≤ 1536) (kend : ∀ (σ : Nat → zSt) (f : Nat → UInt64), zG C 9 zmp 601024 7293034 (zLw (zcT C) α σ f) 1932 (zloc b α 0 |>.take 0) []) : ∀ (d i cells slots : Nat) (σ : Nat → zSt) (f : Nat → UInt64), L < i + 3 + 3 * d → i ≤ 1536 → cells + 8 * d ≤ 601024 → slots + 64 * d ≤ 7293034 → zJ σ → zG C 9 zmp cells slots (zLw (zcT C) α σ f) 28 (zloc b α i) [] := by
  intro d
  induction d with
  | zero =>
    intro i cells slots σ f h1 h2 h3 h4 hJ
    refine z_iload K.1 dL_law_28 5 rfl ?_
    refine z_aload_n K.1 dL_law_30 0 rfl ?_
    refine z_slen K dL_law_31 ?_
    refine z_iconst (v := (3 : Int32)) K.1 dL_law_32 rfl ?_
    refine z_isub K.1 dL_law_33 ?_
    refine z_icmp_gt (tgt := 1932) K.1 dL_law_34 (by decide) (fun _ => ?_) (fun c => absurd ((zlen3 hL h2).mpr (by omega)) c)
    exact z_wid (by omega) (by omega) (z_at rfl rfl rfl [] rfl (kend σ f))
  | succ d ih =>
    intro i cells slots σ f h1 h2 h3 h4 hJ
    refine z_iload K.1 dL_law_28 5 rfl ?_
    refine z_aload_n K.1 dL_law_30 0 rfl ?_
    refine z_slen K dL_law_31 ?_
    refine z_iconst (v := (3 : Int32)) K.1 dL_law_32 rfl ?_
    refine z_isub K.1 dL_law_33 ?_
    refine z_icmp_gt (tgt := 1932) K.1 dL_law_34 (by decide) (fun _ => ?_) (fun c => ?_)
    · exact z_wid (by omega) (by omega) (z_at rfl rfl rfl [] rfl (kend σ f))
    have hi : i + 3 ≤ L := by
      have h5 : ¬ L < i + 3 := fun h => c ((zlen3 hL h2).mpr h)
      omega
    have tail : ∀ (τ : Nat → zSt) (g : Nat → UInt64), zJ τ → zG C 9 zmp (cells + 8) (slots + 64) (zLw (zcT C) α τ g) 1926 (zloc b α i) [] := by
      intro τ g hJ2
      refine z_iinc (v := zI (i + 3)) (lv2 := [(5, .int (zI (i + 3))), (0, .ref b), (1, .ref (α 0 0)), (2, .ref (α 24 0)), (3, .ref (α 25 0)), (4, .ref (α 26 0))]) K.1 dL_law_1926 (k := 5) rfl (by show zI i + zI 3 = _; rw [zI_add]) (by decide) rfl ?_
      refine z_goto (tgt := 28) K.1 dL_law_1929 (by decide) ?_
      exact z_at rfl rfl rfl [1, 2, 3, 4, 5, 0] rfl (ih (i + 3) (cells + 8) (slots + 64) τ g (by omega) (by omega) (by omega) (by omega) hJ2)
    refine z_aload_n K.1 dL_law_37 0 rfl ?_
    refine z_iload K.1 dL_law_38 5 rfl ?_
    refine z_sld K (zin_zI (by omega) (by omega)) dL_law_40 ?_
    refine z_bipush (v := (63 : Int32)) K.1 dL_law_41 rfl ?_
    refine z_iand K.1 dL_law_43 ?_
    obtain ⟨k, hk, e⟩ := zand63 (xs (zI i).toNatClampNeg)
    rw [e]
    by_cases c35 : k < 35
    · have hc : cells + 8 ≤ 601024 := by omega
      have hs : slots + 64 ≤ 7293034 := by omega
      match k, c35 with
      | 0, _ => exact z_tableIn (off := 156) (tgt := 200) K dL_law_44 (by decide) (by decide) (by decide +kernel) (by decide) (zlw_0 K hL hi hc hs hJ tail)
      | 1, _ => exact z_tableIn (off := 224) (tgt := 268) K dL_law_44 (by decide) (by decide) (by decide +kernel) (by decide) (zlw_1 K hL hi hc hs hJ tail)
      | 2, _ => exact z_tableIn (off := 292) (tgt := 336) K dL_law_44 (by decide) (by decide) (by decide +kernel) (by decide) (zlw_2 K hL hi hc hs hJ tail)
      | 3, _ => exact z_tableIn (off := 360) (tgt := 404) K dL_law_44 (by decide) (by decide) (by decide +kernel) (by decide) (zlw_3 K hL hi hc hs hJ tail)
      | 4, _ => exact z_tableIn (off := 418) (tgt := 462) K dL_law_44 (by decide) (by decide) (by decide +kernel) (by decide) (zlw_4 K hL hi hc hs hJ tail)
      | 5, _ => exact z_tableIn (off := 431) (tgt := 475) K dL_law_44 (by decide) (by decide) (by decide +kernel) (by decide) (zlw_5 K hL hi hc hs hJ tail)
      | 6, _ => exact z_tableIn (off := 444) (tgt := 488) K dL_law_44 (by decide) (by decide) (by decide +kernel) (by decide) (zlw_6 K hL hi hc hs hJ tail)
      | 7, _ => exact z_tableIn (off := 488) (tgt := 532) K dL_law_44 (by decide) (by decide) (by decide +kernel) (by decide) (zlw_7 K hL hi hc hs hJ tail)
      | 8, _ => exact z_tableIn (off := 501) (tgt := 545) K dL_law_44 (by decide) (by decide) (by decide +kernel) (by decide) (zlw_8 K hL hi hc hs hJ tail)
      | 9, _ => exact z_tableIn (off := 545) (tgt := 589) K dL_law_44 (by decide) (by decide) (by decide +kernel) (by decide) (zlw_9 K hL hi hc hs hJ tail)
      | 10, _ => exact z_tableIn (off := 601) (tgt := 645) K dL_law_44 (by decide) (by decide) (by decide +kernel) (by decide) (zlw_10 K hL hi hc hs hJ tail)
      | 11, _ => exact z_tableIn (off := 669) (tgt := 713) K dL_law_44 (by decide) (by decide) (by decide +kernel) (by decide) (zlw_11 K hL hi hc hs hJ tail)
      | 12, _ => exact z_tableIn (off := 682) (tgt := 726) K dL_law_44 (by decide) (by decide) (by decide +kernel) (by decide) (zlw_12 K hL hi hc hs hJ tail)
      | 13, _ => exact z_tableIn (off := 750) (tgt := 794) K dL_law_44 (by decide) (by decide) (by decide +kernel) (by decide) (zlw_13 K hL hi hc hs hJ tail)
      | 14, _ => exact z_tableIn (off := 806) (tgt := 850) K dL_law_44 (by decide) (by decide) (by decide +kernel) (by decide) (zlw_14 K hL hi hc hs hJ tail)
      | 15, _ => exact z_tableIn (off := 862) (tgt := 906) K dL_law_44 (by decide) (by decide) (by decide +kernel) (by decide) (zlw_15 K hL hi hc hs hJ tail)
      | 16, _ => exact z_tableIn (off := 930) (tgt := 974) K dL_law_44 (by decide) (by decide) (by decide +kernel) (by decide) (zlw_16 K hL hi hc hs hJ tail)
      | 17, _ => exact z_tableIn (off := 943) (tgt := 987) K dL_law_44 (by decide) (by decide) (by decide +kernel) (by decide) (zlw_17 K hL hi hc hs hJ tail)
      | 18, _ => exact z_tableIn (off := 987) (tgt := 1031) K dL_law_44 (by decide) (by decide) (by decide +kernel) (by decide) (zlw_18 K hL hi hc hs hJ tail)
      | 19, _ => exact z_tableIn (off := 1042) (tgt := 1086) K dL_law_44 (by decide) (by decide) (by decide +kernel) (by decide) (zlw_19 K hL hi hc hs hJ tail)
      | 20, _ => exact z_tableIn (off := 1097) (tgt := 1141) K dL_law_44 (by decide) (by decide) (by decide +kernel) (by decide) (zlw_20 K hL hi hc hs hJ tail)
      | 21, _ => exact z_tableIn (off := 1152) (tgt := 1196) K dL_law_44 (by decide) (by decide) (by decide +kernel) (by decide) (zlw_21 K hL hi hc hs hJ tail)
      | 22, _ => exact z_tableIn (off := 1207) (tgt := 1251) K dL_law_44 (by decide) (by decide) (by decide +kernel) (by decide) (zlw_22 K hL hi hc hs hJ tail)
      | 23, _ => exact z_tableIn (off := 1262) (tgt := 1306) K dL_law_44 (by decide) (by decide) (by decide +kernel) (by decide) (zlw_23 K hL hi hc hs hJ tail)
      | 24, _ => exact z_tableIn (off := 1325) (tgt := 1369) K dL_law_44 (by decide) (by decide) (by decide +kernel) (by decide) (zlw_24 K hL hi hc hs hJ tail)
      | 25, _ => exact z_tableIn (off := 1369) (tgt := 1413) K dL_law_44 (by decide) (by decide) (by decide +kernel) (by decide) (zlw_25 K hL hi hc hs hJ tail)
      | 26, _ => exact z_tableIn (off := 1382) (tgt := 1426) K dL_law_44 (by decide) (by decide) (by decide +kernel) (by decide) (zlw_26 K hL hi hc hs hJ tail)
      | 27, _ => exact z_tableIn (off := 1437) (tgt := 1481) K dL_law_44 (by decide) (by decide) (by decide +kernel) (by decide) (zlw_27 K hL hi hc hs hJ tail)
      | 28, _ => exact z_tableIn (off := 1492) (tgt := 1536) K dL_law_44 (by decide) (by decide) (by decide +kernel) (by decide) (zlw_28 K hL hi hc hs hJ tail)
      | 29, _ => exact z_tableIn (off := 1536) (tgt := 1580) K dL_law_44 (by decide) (by decide) (by decide +kernel) (by decide) (zlw_29 K hL hi hc hs hJ tail)
      | 30, _ => exact z_tableIn (off := 1592) (tgt := 1636) K dL_law_44 (by decide) (by decide) (by decide +kernel) (by decide) (zlw_30 K hL hi hc hs hJ tail)
      | 31, _ => exact z_tableIn (off := 1648) (tgt := 1692) K dL_law_44 (by decide) (by decide) (by decide +kernel) (by decide) (zlw_31 K hL hi hc hs hJ tail)
      | 32, _ => exact z_tableIn (off := 1704) (tgt := 1748) K dL_law_44 (by decide) (by decide) (by decide +kernel) (by decide) (zlw_32 K hL hi hc hs hJ tail)
      | 33, _ => exact z_tableIn (off := 1760) (tgt := 1804) K dL_law_44 (by decide) (by decide) (by decide +kernel) (by decide) (zlw_33 K hL hi hc hs hJ tail)
      | 34, _ => exact z_tableIn (off := 1816) (tgt := 1860) K dL_law_44 (by decide) (by decide) (by decide +kernel) (by decide) (zlw_34 K hL hi hc hs hJ tail)
      | k + 35, h => exact absurd h (by omega)
    · have h6 : (34 : Int) < (zI k).toInt := by
        rw [zI_toInt (by omega)]
        omega
      exact z_tableOut (tgt := 1926) K dL_law_44 (Or.inr h6) (by decide) (z_wid (show cells ≤ cells + 8 by omega) (show slots ≤ slots + 64 by omega) (tail σ f hJ))
end ZLOOP
