/-! 9zh: the law's world, its rows, the ends of its cases. Written by wip/gen/mklaw4.py. -/
/-- the law's world: addresses α and states σ by the places of the groups -/
def zLw (T : Nat → ClassId) (α : Nat → Nat → Nat) (σ : Nat → zSt) (f : Nat → UInt64) : List va_W := [wX11 T (α 0) (α 1 0) (α 2 0) (α 3 0) (α 4 0) (α 8 0) (α 12 0) (α 13 0) (α 16 0) (α 19 0) (α 20) (σ 0), wX5 T (α 1) (σ 1), wX8 T (α 2) (σ 2), wX3 T (α 3) (σ 3), wX9 T (α 4) (α 1 0) (α 5 0) (α 6 0) (α 7 0) (σ 4), wX7 T (α 5) (σ 5), wX1 T (α 6) (σ 6), wX4 T (α 7) (σ 7), wX9 T (α 8) (α 1 0) (α 9 0) (α 10 0) (α 11 0) (σ 8), wX7 T (α 9) (σ 9), wX1 T (α 10) (σ 10), wX4 T (α 11) (σ 11), wX6 T (α 12) (α 1 0) (α 4 0) (σ 12), wX0 T (α 13) (α 1 0) (α 5 0) (α 14 0) (α 15 0) (σ 13), wX4 T (α 14) (σ 14), wX4 T (α 15) (σ 15), wX10 T (α 16) (α 1 0) (α 17 0) (α 18 0) (σ 16), wX4 T (α 17) (σ 17), wX4 T (α 18) (σ 18), wX2 T (α 19) (σ 19), wX4 T (fun j => α 20 (0 + 4 * j)) (σ 20), wX4 T (fun j => α 20 (1 + 4 * j)) (σ 21), wX4 T (fun j => α 20 (2 + 4 * j)) (σ 22), wX4 T (fun j => α 20 (3 + 4 * j)) (σ 23), wX12 T (α 24) (σ 24), wU T (α 25) (σ 25), wUd T (α 26) f]
abbrev zmp : List Nat := [0, 1, 2, 3, 4, 5, 6, 7, 8, 9, 10, 11, 12, 13, 14, 15, 16, 17, 18, 19, 20, 21, 22, 23, 24, 25, 26]
/-- the law's locals at the head of its loop -/
abbrev zloc (b : Nat) (α : Nat → Nat → Nat) (i : Nat) : List (Nat × Value) := [(0, .ref b), (1, .ref (α 0 0)), (2, .ref (α 24 0)), (3, .ref (α 25 0)), (4, .ref (α 26 0)), (5, .int (zI i))]
/-- what the law's walk stands on -/
def zLc (C : zCtx) (base b L : Nat) (xs : Nat → Int32) : Prop := zFx C cL_law 9 RL room_1 (some .boolean) ∧ zFlw C base ∧ zSy C base ∧ va_X b L xs (zcs C) (zcs C).heap ∧ b < (zcs C).heap.size ∧ ¬ zcA C b
section ZLAWROWS
variable {C : zCtx} {base b L : Nat} {xs : Nat → Int32} {mp : List Nat} {cells slots : Nat} {ws ws2 : List va_W} {pc : Nat} {lv : List (Nat × Value)} {st : List Value} {α : Nat → Nat → Nat} {σ : Nat → zSt} {f : Nat → UInt64} {i : Nat}
theorem z_sld (K : zLc C base b L xs) {x : Int32} (hin : zin x L = true) (hd : decode cL_law pc = .ok (.iaload, 1)) (kk : zG C 9 mp cells slots ws (pc + 1) lv (.int (xs x.toNatClampNeg) :: st)) : zG C 9 mp cells slots ws pc lv (.int x :: .ref b :: st) := fun H locs ls h1 h2 h3 h4 hl => va_sld K.1.1 K.1.2.1 K.2.2.2.1 K.2.2.2.2.1 K.2.2.2.2.2 h4 (zin_of hin) hd (kk H locs ls h1 h2 h3 h4 hl)
theorem z_slen (K : zLc C base b L xs) (hd : decode cL_law pc = .ok (.arraylength, 1)) (kk : zG C 9 mp cells slots ws (pc + 1) lv (.int (Int32.ofNat L) :: st)) : zG C 9 mp cells slots ws pc lv (.ref b :: st) := fun H locs ls h1 h2 h3 h4 hl => va_slen K.1.1 K.1.2.1 K.2.2.2.1 K.2.2.2.2.1 K.2.2.2.2.2 h4 hd (kk H locs ls h1 h2 h3 h4 hl)
theorem z_tableIn (K : zLc C base b L xs) {dflt lo hi : Int} {offs : Array Int} {len : Nat} {x : Int32} {off : Int} {tgt : Nat} (hd : decode cL_law pc = .ok (.tableswitch dflt lo hi offs, len)) (h1 : ¬ x.toInt < lo) (h2 : ¬ hi < x.toInt) (ho : offs[(x.toInt - lo).toNat]? = some off) (ht : (pc : Int) + off = (tgt : Int)) (kk : zG C 9 mp cells slots ws tgt lv st) : zG C 9 mp cells slots ws pc lv (.int x :: st) := fun H locs ls g1 g2 g3 g4 hl => lv_tableIn K.1.1 K.1.2.1 hd h1 h2 ho ht (kk H locs ls g1 g2 g3 g4 hl)
theorem z_tableOut (K : zLc C base b L xs) {dflt lo hi : Int} {offs : Array Int} {len : Nat} {x : Int32} {tgt : Nat} (hd : decode cL_law pc = .ok (.tableswitch dflt lo hi offs, len)) (h : x.toInt < lo ∨ hi < x.toInt) (ht : (pc : Int) + dflt = (tgt : Int)) (kk : zG C 9 mp cells slots ws tgt lv st) : zG C 9 mp cells slots ws pc lv (.int x :: st) := fun H locs ls g1 g2 g3 g4 hl => lv_tableOut K.1.1 K.1.2.1 hd h ht (kk H locs ls g1 g2 g3 g4 hl)
/-- an argument out of the script: aload_0, iload 5, iconst k, iadd, iaload -/
theorem z_arg (K : zLc C base b L xs) (hL : L ≤ 1536) {k : Nat} {kz : Int} {v : Int32} (hkz : Int32.ofInt kz = zI k) (hv : xs (i + k) = v) (hi : i + k < L) (j5 j0 : Nat) (h5 : lv[j5]? = some (5, .int (zI i))) (h0 : lv[j0]? = some (0, .ref b)) (hd0 : decode cL_law pc = .ok (.aload_n 0, 1)) (hd1 : decode cL_law (pc + 1) = .ok (.iload 5, 2)) (hd3 : decode cL_law (pc + 3) = .ok (.iconst kz, 1)) (hd4 : decode cL_law (pc + 4) = .ok (.iadd, 1)) (hd5 : decode cL_law (pc + 5) = .ok (.iaload, 1)) (kk : zG C 9 mp cells slots ws (pc + 6) lv (.int v :: st)) : zG C 9 mp cells slots ws pc lv st := by
  subst hv
  refine z_aload_n K.1 hd0 j0 h0 ?_
  refine z_iload K.1 hd1 j5 h5 ?_
  refine z_iconst (v := zI k) K.1 hd3 hkz ?_
  refine z_iadd K.1 hd4 ?_
  rw [zI_add]
  refine z_sld K (zin_zI hi (by omega)) hd5 ?_
  rw [zI_nat (by omega)]
  exact kk
/-- out of what both say: what the wrapper answers and writes -/
theorem zWr_ag {β : Type} {put : β → Int64} {tab : List (String × Int32)} {r : String ⊕ β} {v : β} {c : Int32} (w : zSt) (ht : ∀ p ∈ tab, ¬ p.2 = 0) (h : zAg tab r v c) : ∃ w2, zWr put tab r w c w2 ∧ ((c = 0 ∧ zgb w2 0 ((0 : Int32)).toNatClampNeg = put v) ∨ ¬ c = 0) := by
  rcases h with ⟨h1, h2⟩ | ⟨E, h1, h2⟩
  · refine ⟨_, Or.inl ⟨v, h1, h2, rfl⟩, Or.inl ⟨h2, ?_⟩⟩
    rw [gb_sb]
    exact updL_s rfl
  · exact ⟨w, Or.inr ⟨E, h1, h2, rfl⟩, Or.inr (ht _ h2)⟩
theorem zfour {x : Int32} (h : ¬ (x < 0 ∨ 4 ≤ x)) : ∃ k, k < 4 ∧ x = zI k := by
  have h0 : ¬ x < 0 := fun c => h (Or.inl c)
  have h4 : ¬ 4 ≤ x := fun c => h (Or.inr c)
  obtain ⟨k, hk, e⟩ := zix_ex (n := 4) (x := x) (by omega) (zix_iff.mpr ⟨by rw [z32lt] at h0; rw [z32le]; omega, by rw [z32le] at h4; rw [z32lt]; exact Int.not_le.mp h4⟩)
  exact ⟨k, hk, e⟩
theorem zWd_ag {tab : List (String × Int32)} {r : String ⊕ UInt32} {v : UInt32} {c : Int32} (g : Nat → UInt64) (ht : ∀ p ∈ tab, ¬ p.2 = 0) (hz : zfok v = true) (h : zAg tab r v c) : ∃ g2, zWd tab r g c g2 ∧ ((c = 0 ∧ g2 ((0 : Int32)).toNatClampNeg = FP.f2d v) ∨ ¬ c = 0) := by
  rcases h with ⟨h1, h2⟩ | ⟨E, h1, h2⟩
  · refine ⟨_, Or.inl ⟨v, h1, h2, rfl, ?_⟩, Or.inl ⟨h2, ?_⟩⟩
    · unfold zfok at hz
      simp only [Bool.and_eq_true, decide_eq_true_eq] at hz
      exact hz.1
    · unfold vf_upd
      simp
  · exact ⟨g, Or.inr ⟨E, h1, h2, rfl⟩, Or.inr (ht _ h2)⟩

theorem zmR_thrown : zMV yX12_thrown cX12_thrown 1 (some .int) 0 := ⟨zW_tab (List.mem_of_getElem? (i := 1460) (by decide +kernel)) (by decide +kernel), zW_tab (List.mem_of_getElem? (i := 13) (by decide +kernel)) (by decide +kernel), zW_tab (List.mem_of_getElem? (i := 1458) (by decide +kernel)) (by decide +kernel), zW_tab (List.mem_of_getElem? (i := 1459) (by decide +kernel)) (by decide +kernel), (by decide +kernel)⟩
theorem zlR_thrown : Cond.methodLink RL 125 yX12_thrown ∈ zW := zW_tab (List.mem_of_getElem? (i := 1457) (by decide +kernel)) (by decide +kernel)
theorem zthr (K : zLc C base b L xs) {c : Int32} (h9 : zgi (σ 24) 9 = c) {j2 : Nat} (h2 : lv[j2]? = some (2, .ref (α 24 0))) (hd0 : decode cL_law pc = .ok (.aload_n 2, 1)) (hd1 : decode cL_law (pc + 1) = .ok (.invokevirtual 125, 3)) (hc : cells ≤ 601024) (hs : slots ≤ 7293034) (kk : zG C 9 mp cells slots (zLw (zcT C) α σ f) (pc + 4) lv (.int c :: [])) : zG C 9 mp cells slots (zLw (zcT C) α σ f) pc lv [] := by
  subst h9
  refine z_aload_n K.1 hd0 j2 h2 ?_
  exact z_callVi (st := []) (ws2 := zLw (zcT C) α σ f) K.1 (metX12_thrown (zcl C) (zcD C) (zcT C) (α 24) (sO := σ 24) (out := zgi (σ 24) 9) rfl) zmR_thrown zlR_thrown hd1 24 0 13 rfl rfl rfl rfl [24] rfl rfl [] rfl (fun _ h => absurd h List.not_mem_nil) trivial rfl rfl rfl (Nat.le_of_ble_eq_true rfl) rfl rfl ⟨Nat.le_of_ble_eq_true rfl, Nat.le_of_ble_eq_true rfl⟩ ⟨hc, hs⟩ kk
/-- the end of a case whose answer is an int -/
theorem ztl_i (K : zLc C base b L xs) {c v : Int32} (h9 : zgi (σ 24) 9 = c) (hw : (c = 0 ∧ zgb (σ 25) 0 ((0 : Int32)).toNatClampNeg = v.toInt64) ∨ ¬ c = 0) {off : Int} (hd0 : decode cL_law pc = .ok (.aload_n 2, 1)) (hd1 : decode cL_law (pc + 1) = .ok (.invokevirtual 125, 3)) (hd4 : decode cL_law (pc + 4) = .ok (.iload 6, 2)) (hd6 : decode cL_law (pc + 6) = .ok (.if_icmp .eq 5, 3)) (hd11 : decode cL_law (pc + 11) = .ok (.iload 6, 2)) (hd13 : decode cL_law (pc + 13) = .ok (.ifCond .ne 15, 3)) (hd16 : decode cL_law (pc + 16) = .ok (.aload_n 3, 1)) (hd17 : decode cL_law (pc + 17) = .ok (.iconst 0, 1)) (hd18 : decode cL_law (pc + 18) = .ok (.laload, 1)) (hd19 : decode cL_law (pc + 19) = .ok (.iload 7, 2)) (hd21 : decode cL_law (pc + 21) = .ok (.i2l, 1)) (hd22 : decode cL_law (pc + 22) = .ok (.lcmp, 1)) (hd23 : decode cL_law (pc + 23) = .ok (.ifCond .eq 5, 3)) (hd28 : decode cL_law (pc + 28) = .ok (.goto off, 3)) (ht : ((pc + 28 : Nat) : Int) + off = ((1926 : Nat) : Int)) (hc : cells ≤ 601024) (hs : slots ≤ 7293034) (kk : zG C 9 zmp cells slots (zLw (zcT C) α σ f) 1926 (zloc b α i) []) : zG C 9 zmp cells slots (zLw (zcT C) α σ f) pc ((7, .int v) :: (6, .int c) :: zloc b α i) [] := by
  have ke : zG C 9 zmp cells slots (zLw (zcT C) α σ f) (pc + 28) ((7, .int v) :: (6, .int c) :: zloc b α i) [] := by
    refine z_goto (tgt := 1926) K.1 hd28 ht ?_
    exact z_at rfl rfl rfl [2, 3, 4, 5, 6, 7] rfl kk
  refine zthr K h9 (j2 := 4) rfl hd0 hd1 hc hs ?_
  refine z_iload K.1 hd4 1 rfl ?_
  refine z_icmp_eq (tgt := pc + 11) K.1 hd6 (by omega) (fun _ => ?_) (fun h => absurd rfl h)
  refine z_iload K.1 hd11 1 rfl ?_
  refine z_if_ne (tgt := pc + 28) K.1 hd13 (by omega) (fun _ => ke) (fun h0 => ?_)
  rcases hw with ⟨-, hw⟩ | hw
  · refine z_aload_n K.1 hd16 5 rfl ?_
    refine z_iconst (v := (0 : Int32)) K.1 hd17 rfl ?_
    refine z_lald K.1 25 0 (by decide) hd18 rfl rfl ?_
    refine z_iload K.1 hd19 0 rfl ?_
    refine z_i2l K.1 hd21 ?_
    exact z_lcmp_eq (tgt := pc + 28) K.1 hd22 hd23 (by omega) (fun _ => ke) (fun h => absurd hw h)
  · exact absurd h0 hw
/-- the end of a case whose answer is a long -/
theorem ztl_l (K : zLc C base b L xs) {c : Int32} {v : Int64} (h9 : zgi (σ 24) 9 = c) (hw : (c = 0 ∧ zgb (σ 25) 0 ((0 : Int32)).toNatClampNeg = v) ∨ ¬ c = 0) {off : Int} (hd0 : decode cL_law pc = .ok (.aload_n 2, 1)) (hd1 : decode cL_law (pc + 1) = .ok (.invokevirtual 125, 3)) (hd4 : decode cL_law (pc + 4) = .ok (.iload 6, 2)) (hd6 : decode cL_law (pc + 6) = .ok (.if_icmp .eq 5, 3)) (hd11 : decode cL_law (pc + 11) = .ok (.iload 6, 2)) (hd13 : decode cL_law (pc + 13) = .ok (.ifCond .ne 14, 3)) (hd16 : decode cL_law (pc + 16) = .ok (.aload_n 3, 1)) (hd17 : decode cL_law (pc + 17) = .ok (.iconst 0, 1)) (hd18 : decode cL_law (pc + 18) = .ok (.laload, 1)) (hd19 : decode cL_law (pc + 19) = .ok (.lload 7, 2)) (hd21 : decode cL_law (pc + 21) = .ok (.lcmp, 1)) (hd22 : decode cL_law (pc + 22) = .ok (.ifCond .eq 5, 3)) (hd27 : decode cL_law (pc + 27) = .ok (.goto off, 3)) (ht : ((pc + 27 : Nat) : Int) + off = ((1926 : Nat) : Int)) (hc : cells ≤ 601024) (hs : slots ≤ 7293034) (kk : zG C 9 zmp cells slots (zLw (zcT C) α σ f) 1926 (zloc b α i) []) : zG C 9 zmp cells slots (zLw (zcT C) α σ f) pc ((7, .long v) :: (6, .int c) :: zloc b α i) [] := by
  have ke : zG C 9 zmp cells slots (zLw (zcT C) α σ f) (pc + 27) ((7, .long v) :: (6, .int c) :: zloc b α i) [] := by
    refine z_goto (tgt := 1926) K.1 hd27 ht ?_
    exact z_at rfl rfl rfl [2, 3, 4, 5, 6, 7] rfl kk
  refine zthr K h9 (j2 := 4) rfl hd0 hd1 hc hs ?_
  refine z_iload K.1 hd4 1 rfl ?_
  refine z_icmp_eq (tgt := pc + 11) K.1 hd6 (by omega) (fun _ => ?_) (fun h => absurd rfl h)
  refine z_iload K.1 hd11 1 rfl ?_
  refine z_if_ne (tgt := pc + 27) K.1 hd13 (by omega) (fun _ => ke) (fun h0 => ?_)
  rcases hw with ⟨-, hw⟩ | hw
  · refine z_aload_n K.1 hd16 5 rfl ?_
    refine z_iconst (v := (0 : Int32)) K.1 hd17 rfl ?_
    refine z_lald K.1 25 0 (by decide) hd18 rfl rfl ?_
    refine z_lload K.1 hd19 0 rfl ?_
    exact z_lcmp_eq (tgt := pc + 27) K.1 hd21 hd22 (by omega) (fun _ => ke) (fun h => absurd hw h)
  · exact absurd h0 hw
end ZLAWROWS
