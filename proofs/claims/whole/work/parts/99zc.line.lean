/-! 9zc: a line of characters, as the class and the reference write it. -/
def zLb (len : Nat) (L B : zSt) : Prop := zgi L 1 = zI len ∧ zgi B 1 = 0 ∧ zgi B 3 = zI len ∧ ∀ j, j < len → ∃ c, c < 128 ∧ zga L 0 j = zI c ∧ zga B 0 j = zI c
def zLp (L : zSt) (len c : Nat) : zSt := zsi (zsa L 0 (upd (zga L 0) len (zI c))) 1 (zI (len + 1))
theorem zLp_1 {L : zSt} {len c : Nat} : zgi (zLp L len c) 1 = zI (len + 1) := gi_si
theorem zLp_n {L : zSt} {len c j : Nat} (h : j ≠ len) : zga (zLp L len c) 0 j = zga L 0 j := by
  show zga (zsa L 0 (upd (zga L 0) len (zI c))) 0 j = _
  rw [ga_sa, upd_n h]
theorem zLp_s {L : zSt} {len c : Nat} : zga (zLp L len c) 0 len = zI c := by
  show zga (zsa L 0 (upd (zga L 0) len (zI c))) 0 len = _
  rw [ga_sa, upd_s rfl]
theorem zsw_n {B : zSt} {i x : Int32} {j p : Nat} (hp : i.toNatClampNeg = p) (h : j ≠ p) : zga (zsw B i x) 0 j = zga B 0 j := by
  unfold zsw
  rw [ga_sa, hp, upd_n h]
theorem zsw_s {B : zSt} {i x : Int32} {p : Nat} (hp : i.toNatClampNeg = p) : zga (zsw B i x) 0 p = vp_nar .byte x := by
  unfold zsw
  rw [ga_sa, hp, upd_s rfl]
theorem zld_b : ∀ c, c < 128 → vp_nar .byte (zI c).toInt8.toInt32 = zI c := by decide +kernel
theorem zld_r : ∀ c, c < 128 → vp_nar .char (zI c) = zI c := by decide +kernel
theorem zld_y : ∀ c, c < 128 → vp_nar .byte (zI c) = zI c := by decide +kernel
theorem zld_a : ∀ c, c < 128 → ((zI c &&& (255 : Int32)).toUInt32 % 65536).toInt32 = zI c := by decide +kernel
theorem zld_z : ∀ c, c < 128 → znar .char (zI c) = true := by decide +kernel
theorem zld_l : ∀ len, len < 16 → (zI len + (1 : Int32)) - (16 : Int32) >>> ((0 : Int32) &&& 31) ≤ 0 := by decide +kernel
theorem zld_v : ∀ i, i < 3 → ((((97 : Int32) + zI i)).toUInt32 % 65536).toInt32 = zI (97 + i) := by decide +kernel
theorem zld_d : ∀ d, d < 10 → ((((48 : Int32) + zI d)).toUInt32 % 65536).toInt32 = zI (48 + d) := by decide +kernel
theorem zld_u : ∀ d, d < 100 → ((((48 : Int32) + (zI d - zI d / (10 : Int32) * (10 : Int32)))).toUInt32 % 65536).toInt32 = zI (48 + d % 10) := by decide +kernel
theorem zld_t : ∀ d, d < 100 → ((((48 : Int32) + (zI d / (10 : Int32)))).toUInt32 % 65536).toInt32 = zI (48 + d / 10) := by decide +kernel
theorem zla_1 : ∀ len, len < 16 → ((zI len + ((1 : Int32) + (0 : Int32))) - (16 : Int32) >>> ((0 : Int32) &&& 31) ≤ 0) ∧ zin ((zI len + ((1 : Int32) + (0 : Int32))) + (-1)) 16 = true ∧ ((zI len + ((1 : Int32) + (0 : Int32))) + (-1)).toNatClampNeg = len ∧ zI len + ((1 : Int32) + (0 : Int32)) = zI (len + 1) := by decide +kernel
theorem zla_2 : ∀ len, len < 15 → ((zI len + (((1 : Int32) + 1) + (0 : Int32))) - (16 : Int32) >>> ((0 : Int32) &&& 31) ≤ 0) ∧ zin ((zI len + (((1 : Int32) + 1) + (0 : Int32))) + (-1)) 16 = true ∧ zin (((zI len + (((1 : Int32) + 1) + (0 : Int32))) + (-1)) + (-1)) 16 = true ∧ ((zI len + (((1 : Int32) + 1) + (0 : Int32))) + (-1)).toNatClampNeg = len + 1 ∧ (((zI len + (((1 : Int32) + 1) + (0 : Int32))) + (-1)) + (-1)).toNatClampNeg = len ∧ zI len + (((1 : Int32) + 1) + (0 : Int32)) = zI (len + 2) := by decide +kernel
theorem zla_n : ∀ len, len < 15 → ((zI len + ((1 : Int32) + (1 : Int32))) - (16 : Int32) >>> ((0 : Int32) &&& 31) ≤ 0) ∧ zin ((zI len + ((1 : Int32) + (1 : Int32))) + (-1)) 16 = true ∧ zin (((zI len + ((1 : Int32) + (1 : Int32))) + (-1)) + (-1)) 16 = true ∧ ((zI len + ((1 : Int32) + (1 : Int32))) + (-1)).toNatClampNeg = len + 1 ∧ (((zI len + ((1 : Int32) + (1 : Int32))) + (-1)) + (-1)).toNatClampNeg = len ∧ zI len + ((1 : Int32) + (1 : Int32)) = zI (len + 2) := by decide +kernel
theorem zla_3 : ∀ len, len < 14 → ((zI len + (((1 : Int32) + 1) + (1 : Int32))) - (16 : Int32) >>> ((0 : Int32) &&& 31) ≤ 0) ∧ zin ((zI len + (((1 : Int32) + 1) + (1 : Int32))) + (-1)) 16 = true ∧ zin (((zI len + (((1 : Int32) + 1) + (1 : Int32))) + (-1)) + (-1)) 16 = true ∧ zin ((((zI len + (((1 : Int32) + 1) + (1 : Int32))) + (-1)) + (-1)) + (-1)) 16 = true ∧ ((zI len + (((1 : Int32) + 1) + (1 : Int32))) + (-1)).toNatClampNeg = len + 2 ∧ (((zI len + (((1 : Int32) + 1) + (1 : Int32))) + (-1)) + (-1)).toNatClampNeg = len + 1 ∧ ((((zI len + (((1 : Int32) + 1) + (1 : Int32))) + (-1)) + (-1)) + (-1)).toNatClampNeg = len ∧ zI len + (((1 : Int32) + 1) + (1 : Int32)) = zI (len + 3) := by decide +kernel
theorem zlb_1 : ∀ d, d < 10 → (¬ zI d < 0) ∧ (¬ (-(zI d)) ≤ (-10 : Int32)) ∧ ((-100 : Int32) < (-(zI d))) ∧ ((-9 : Int32) ≤ (-(zI d))) ∧ zin (-(-(zI d))) 100 = true ∧ Int32.ofNat (48 + (-(-(zI d))).toNatClampNeg % 10) = zI (48 + d) := by decide +kernel
theorem zlb_2 : ∀ d, d < 100 → 10 ≤ d → (¬ zI d < 0) ∧ ((-(zI d)) ≤ (-10 : Int32)) ∧ (¬ (-(zI d)) ≤ (10 : Int32) * (-10 : Int32)) ∧ ((-100 : Int32) < (-(zI d))) ∧ (¬ (-9 : Int32) ≤ (-(zI d))) ∧ zin (-(-(zI d))) 100 = true ∧ Int32.ofNat (48 + (-(-(zI d))).toNatClampNeg % 10) = zI (48 + d % 10) ∧ Int32.ofNat (48 + (-(-(zI d))).toNatClampNeg / 10) = zI (48 + d / 10) := by decide +kernel
theorem zlb_n : ∀ d, d < 10 → 0 < d → ((-(zI d)) < 0) ∧ (¬ (-(zI d)) ≤ (-10 : Int32)) ∧ ((-100 : Int32) < (-(zI d))) ∧ ((-9 : Int32) ≤ (-(zI d))) ∧ zin (-(-(zI d))) 100 = true ∧ Int32.ofNat (48 + (-(-(zI d))).toNatClampNeg % 10) = zI (48 + d) := by decide +kernel
theorem zlb_3 : ∀ d, d < 100 → 10 ≤ d → ((-(zI d)) < 0) ∧ ((-(zI d)) ≤ (-10 : Int32)) ∧ (¬ (-(zI d)) ≤ (10 : Int32) * (-10 : Int32)) ∧ ((-100 : Int32) < (-(zI d))) ∧ (¬ (-9 : Int32) ≤ (-(zI d))) ∧ zin (-(-(zI d))) 100 = true ∧ Int32.ofNat (48 + (-(-(zI d))).toNatClampNeg % 10) = zI (48 + d % 10) ∧ Int32.ofNat (48 + (-(-(zI d))).toNatClampNeg / 10) = zI (48 + d / 10) := by decide +kernel
theorem zlc_n : ∀ d, d < 100 → 0 < d → (¬ (0 : Int32) ≤ -(zI d)) ∧ ¬ -(zI d) = 0 ∧ -(-(zI d)) = zI d ∧ -(zI d) ≤ 0 ∧ (¬ (1 : Int32) < -(zI d)) ∧ ((-1 : Int32) ≤ -(zI d) ↔ d = 1) := by decide +kernel
/-- a small number: d or -d -/
theorem zsgn2 {c : Int32} {A : Nat} (hA : A < 1000) (h : zab c.toInt A) : (∃ d, d ≤ A ∧ c = zI d) ∨ ∃ d, 0 < d ∧ d ≤ A ∧ c = -(zI d) := by
  have h1 := zab_lo h
  have h2 := zab_hi h
  by_cases s : 0 ≤ c.toInt
  · refine Or.inl ⟨c.toInt.toNat, by omega, ?_⟩
    rw [z32eq, zI_toInt (by omega)]
    omega
  · refine Or.inr ⟨(-c.toInt).toNat, by omega, by omega, ?_⟩
    have e := zI_toInt (i := (-c.toInt).toNat) (by omega)
    rw [z32eq, z32neg (A := 1000) (by rw [e]; exact zab_of (by omega) (by omega)) (by omega), e]
    omega
section ZLINE
variable {len c d : Nat} {L B : zSt}
theorem eX3_put (h : zgi L 1 = zI len) (hl : len < 30) (hc : c < 128) : fX3_put L (zI c) = some (zLp L len c) := by
  unfold fX3_put fX3_put_39
  rw [h, if_neg (by rw [zn0, zI_lt (by omega) (by omega)]; omega), if_neg (by rw [zn30, zI_le (by omega) (by omega)]; omega), if_pos (zin_zI hl (by omega)), zlq, zlq, zI_nat (by omega), zld_r c hc]
  have e : ∀ v, zgi (zsa L 0 v) 1 = zgi L 1 := fun _ => rfl
  rw [e, h, zI_succ]
  rfl
theorem eJ4_app (h1 : zgi B 1 = 0) (h3 : zgi B 3 = zI len) (hl : len < 16) (hc : c < 128) : ∃ B2, fJ4_append_cf468 B (zI c) = some B2 ∧ zgi B2 1 = 0 ∧ zgi B2 3 = zI (len + 1) ∧ (∀ j, j < len → zga B2 0 j = zga B 0 j) ∧ zga B2 0 len = zI c := by
  unfold fJ4_append_cf468
  rw [h1, h3]
  have hn : (zI len).toNatClampNeg = len := zI_nat (by omega)
  have h255 : ¬ (255 : Int32) < zI c := by rw [show (255 : Int32) = zI 255 from rfl, zI_lt (by omega) (by omega)]; omega
  refine ⟨_, if_pos ⟨rfl, zld_l len hl, h255, zin_zI hl (by omega)⟩, ?_, ?_, fun j hj => ?_, ?_⟩
  · unfold zsw
    rw [gi_sa, gi_sin (by omega), h1]
  · unfold zsw
    rw [gi_sa, gi_si, zI_succ]
  · rw [zsw_n hn (by omega), ga_si]
  · rw [zsw_s hn, zld_b c hc]
theorem zLb_k {len2 : Nat} {L2 B2 : zSt} (h : zLb len L B) (a1 : zgi L2 1 = zI len2) (b1 : zgi B2 1 = 0) (b3 : zgi B2 3 = zI len2) (aj : ∀ j, j < len → zga L2 0 j = zga L 0 j) (bj : ∀ j, j < len → zga B2 0 j = zga B 0 j) (hn : ∀ j, len ≤ j → j < len2 → ∃ c, c < 128 ∧ zga L2 0 j = zI c ∧ zga B2 0 j = zI c) : zLb len2 L2 B2 := by
  refine ⟨a1, b1, b3, fun j hj => ?_⟩
  by_cases c : j < len
  · rw [aj j c, bj j c]
    exact h.2.2.2 j c
  · exact hn j (by omega) hj
theorem zputb (h : zLb len L B) (hl : len < 16) (hc : c < 128) : ∃ L2 B2, fX3_put L (zI c) = some L2 ∧ fJ4_append_cf468 B (zI c) = some B2 ∧ zLb (len + 1) L2 B2 := by
  obtain ⟨B2, b0, b1, b3, bj, bn⟩ := eJ4_app h.2.1 h.2.2.1 hl hc
  refine ⟨_, B2, eX3_put h.1 (by omega) hc, b0, zLb_k h zLp_1 b1 b3 (fun j hj => zLp_n (by omega)) bj (fun j hj hj2 => ⟨c, hc, ?_, ?_⟩)⟩
  · rw [show j = len by omega]; exact zLp_s
  · rw [show j = len by omega]; exact bn
/-- one digit -/
theorem zdg (h : zLb len L B) (hl : len < 16) (hd : d < 10) : ∃ L2 B2, fX3_put L (zI (48 + d)) = some L2 ∧ fJ4_append_bf812 B (zI d) = some B2 ∧ zLb (len + 1) L2 B2 := by
  obtain ⟨-, h1, h3, -⟩ := id h
  obtain ⟨l1, l2, l3, l4⟩ := zla_1 len hl
  obtain ⟨d1, d2, d3, d4, d5, d6⟩ := zlb_1 d hd
  have hb : ∃ B2, fJ4_append_bf812 B (zI d) = some B2 ∧ zgi B2 1 = 0 ∧ zgi B2 3 = zI (len + 1) ∧ (∀ j, j < len → zga B2 0 j = zga B 0 j) ∧ zga B2 0 len = zI (48 + d) := by
    unfold fJ4_append_bf812
    rw [h1, h3]
    refine ⟨_, if_pos ⟨rfl, d1, d2, l1, d3, d4, d5, l2⟩, ?_, ?_, fun j hj => ?_, ?_⟩
    · rw [gi_sin (by omega)]; exact h1
    · rw [gi_si, l4]
    · exact zsw_n l3 (by omega)
    · refine (zsw_s l3).trans ?_
      rw [d6, zld_y _ (by omega)]
  obtain ⟨B2, b0, b1, b3, bj, bn⟩ := hb
  refine ⟨_, B2, eX3_put h.1 (by omega) (by omega), b0, zLb_k h zLp_1 b1 b3 (fun j hj => zLp_n (by omega)) bj (fun j hj hj2 => ⟨48 + d, by omega, ?_, ?_⟩)⟩
  · rw [show j = len by omega]; exact zLp_s
  · rw [show j = len by omega]; exact bn
/-- the tail of a term: digit, letter -/
theorem ztailb {i r : Nat} {O : zSt} {x : Int32} {k10 : zSt → Int32 → Int32 → Option zSt} (h : zLb len L B) (hl : len < 14) (hi : i < 3) (hd : 0 < d) (hd9 : d ≤ 9) (hx : x = zI d ∨ x = -(zI d)) : ∃ L2 B2 k, fX3_writeTerm_31 L x (zI i) = some L2 ∧ fX12_line_66 O k10 B (zI r) (zI i) x = fX12_line_106 O k10 B2 (zI r) (zI i) ∧ zLb (len + k) L2 B2 ∧ k ≤ 2 := by
  obtain ⟨n1, n2, n3, n4, n5, n6⟩ := zlc_n d (by omega) hd
  have hv := zld_v i hi
  -- what remains: the digit when it is not one, then the letter
  have cls : fX3_writeTerm_31 L x (zI i) = fX3_writeTerm_41 L (zI i) (zI d) := by
    unfold fX3_writeTerm_31
    rcases hx with e | e
    · rw [e, if_pos (show (0 : Int32) ≤ zI d by rw [zn0, zI_le (by omega) (by omega)]; omega)]
    · rw [e, if_neg n1, n3]
  rw [cls]
  unfold fX3_writeTerm_41 fX3_writeTerm_56
  by_cases e1 : d = 1
  · have ref : fX12_line_66 O k10 B (zI r) (zI i) x = fX12_line_96 O k10 B (zI r) (zI i) := by
      unfold fX12_line_66
      rcases hx with e | e
      · rw [e, if_neg (show ¬ (1 : Int32) < zI d by rw [zn1, zI_lt (by omega) (by omega)]; omega), if_pos (show (-1 : Int32) ≤ zI d by rw [e1]; decide)]
      · rw [e, if_neg n5, if_pos (n6.mpr e1)]
    obtain ⟨L2, B2, a, b, c⟩ := zputb (c := 97 + i) h (by omega) (by omega)
    rw [ref]
    unfold fX12_line_96
    rw [if_pos (show zI d = 1 by rw [e1]; rfl), hv, a, b, zbq, zbq]
    exact ⟨L2, B2, 1, rfl, rfl, c, by omega⟩
  · have ref : fX12_line_66 O k10 B (zI r) (zI i) x = fX12_line_92 O k10 B (zI r) (zI i) (zI d) := by
      unfold fX12_line_66 fX12_line_78
      rcases hx with e | e
      · rw [e, if_pos (show (1 : Int32) < zI d by rw [zn1, zI_lt (by omega) (by omega)]; omega), if_pos (show (0 : Int32) ≤ zI d by rw [zn0, zI_le (by omega) (by omega)]; omega)]
      · rw [e, if_neg n5, if_neg (fun g => e1 (n6.mp g)), if_neg n1, n3]
    obtain ⟨L1, B1, a, b, c⟩ := zdg (d := d) h (by omega) (by omega)
    obtain ⟨L2, B2, a2, b2, c2⟩ := zputb (c := 97 + i) c (by omega) (by omega)
    rw [ref]
    unfold fX12_line_92 fX12_line_96
    rw [if_neg (show ¬ zI d = 1 by rw [zn1, zI_eq (by omega) (by omega)]; exact e1), zld_d d (by omega), hv, a, b, zbq, zbq, a2, b2, zbq, zbq]
    exact ⟨L2, B2, 2, rfl, rfl, c2, by omega⟩
/-- a term -/
theorem ztermb {i r : Nat} {O : zSt} {x : Int32} {k10 : zSt → Int32 → Int32 → Option zSt} (h : zLb len L B) (hl : len < 13) (hi : i < 3) (hx0 : ¬ x = 0) (hx : zab x.toInt 9) : ∃ L2 B2 k, fX3_writeTerm L x (zI i) = some L2 ∧ (if (0 : Int32) ≤ x then fX12_line_47 O k10 B (zI r) (zI i) x else (fJ4_append_cf468 B (45 : Int32)).bind (fun o43 => fX12_line_47 O k10 o43 (zI r) (zI i) x)) = fX12_line_106 O k10 B2 (zI r) (zI i) ∧ zLb (len + k) L2 B2 ∧ k ≤ 3 := by
  unfold fX3_writeTerm
  rw [if_neg hx0]
  rcases zsgn2 (by omega) hx with ⟨d, hd, e⟩ | ⟨d, hd0, hd, e⟩
  · have hd0 : 0 < d := by
      by_cases z : d = 0
      · rw [z] at e; exact absurd e hx0
      · omega
    have p0 : (0 : Int32) ≤ x := by rw [e, zn0, zI_le (by omega) (by omega)]; omega
    have p1 : ¬ x ≤ 0 := by rw [e, zn0, zI_le (by omega) (by omega)]; omega
    rw [if_pos p0, if_pos p0]
    unfold fX12_line_47 fJ4_length_8abf5
    rw [if_neg p1, zbq, h.1, h.2.2.1]
    by_cases l0 : len = 0
    · have q0 : zI len ≤ 0 := by rw [l0]; decide
      rw [if_pos q0, if_pos q0]
      obtain ⟨L2, B2, k, a, b, c, dd⟩ := ztailb (r := r) (O := O) (k10 := k10) h (by omega) hi hd0 hd (Or.inl e)
      exact ⟨L2, B2, k, a, b, c, by omega⟩
    · have q0 : ¬ zI len ≤ 0 := by rw [zn0, zI_le (by omega) (by omega)]; omega
      rw [if_neg q0, if_neg q0]
      obtain ⟨L1, B1, a, b, c⟩ := zputb (c := 43) h (by omega) (by omega)
      rw [show (43 : Int32) = zI 43 from rfl, a, b, zbq, zbq]
      obtain ⟨L2, B2, k, a2, b2, c2, dd⟩ := ztailb (r := r) (O := O) (k10 := k10) c (by omega) hi hd0 hd (Or.inl e)
      exact ⟨L2, B2, 1 + k, a2, b2, by rw [← Nat.add_assoc]; exact c2, by omega⟩
  · obtain ⟨n1, n2, n3, n4, n5, n6⟩ := zlc_n d (by omega) hd0
    have p0 : ¬ (0 : Int32) ≤ x := by rw [e]; exact n1
    have p1 : x ≤ 0 := by rw [e]; exact n4
    rw [if_neg p0, if_neg p0]
    obtain ⟨L1, B1, a, b, c⟩ := zputb (c := 45) h (by omega) (by omega)
    rw [show (45 : Int32) = zI 45 from rfl, a, b, zbq, zbq]
    unfold fX12_line_47
    rw [if_pos p1]
    obtain ⟨L2, B2, k, a2, b2, c2, dd⟩ := ztailb (r := r) (O := O) (k10 := k10) c (by omega) hi hd0 hd (Or.inr e)
    exact ⟨L2, B2, 1 + k, a2, b2, by rw [← Nat.add_assoc]; exact c2, by omega⟩
/-- the class's two digits -/
theorem znum_21 (h : zgi L 1 = zI len) (hl : len < 20) (hd : d < 100) : fX3_writeNumber_21 L (zI d) = some (if d < 10 then zLp L len (48 + d) else zLp (zLp L len (48 + d / 10)) (len + 1) (48 + d % 10)) := by
  have hm : d % 10 < 10 := Nat.mod_lt _ (by omega)
  have hq : d / 10 < 10 := by omega
  unfold fX3_writeNumber_21 fX3_writeNumber_39
  rw [zld_u d hd, zld_t d hd, show (10 : Int32) = zI 10 from rfl]
  by_cases c : d < 10
  · rw [if_pos (show zI d < zI 10 by rw [zI_lt (by omega) (by omega)]; exact c), if_pos c, eX3_put h (by omega) (by omega), zbq, Nat.mod_eq_of_lt c]
  · rw [if_neg (show ¬ zI d < zI 10 by rw [zI_lt (by omega) (by omega)]; exact c), if_neg c, eX3_put h (by omega) (by omega), zbq, eX3_put zLp_1 (by omega) (by omega), zbq]
theorem znumb {x : Int32} (h : zLb len L B) (hl : len < 13) (hx : zab x.toInt 99) : ∃ L2 B2 k, fX3_writeNumber L x = some L2 ∧ fJ4_append_bf812 B x = some B2 ∧ zLb (len + k) L2 B2 ∧ k ≤ 3 := by
  obtain ⟨-, h1, h3, -⟩ := id h
  unfold fX3_writeNumber fX3_writeNumber_10
  rcases zsgn2 (by omega) hx with ⟨d, hd, e⟩ | ⟨d, hd0, hd, e⟩
  · have p0 : (0 : Int32) ≤ x := by rw [e, zn0, zI_le (by omega) (by omega)]; omega
    rw [if_pos p0, if_pos p0, e, znum_21 h.1 (by omega) (by omega)]
    by_cases c : d < 10
    · obtain ⟨L2, B2, a, b, g⟩ := zdg (d := d) h (by omega) c
      rw [eX3_put h.1 (by omega) (by omega)] at a
      rw [if_pos c]
      exact ⟨L2, B2, 1, a, b, g, by omega⟩
    · obtain ⟨l1, l2, l3, l4, l5, l6⟩ := zla_2 len (by omega)
      obtain ⟨d1, d2, d3, d4, d5, d6, d7, d8⟩ := zlb_2 d (by omega) (by omega)
      have hb : ∃ B2, fJ4_append_bf812 B (zI d) = some B2 ∧ zgi B2 1 = 0 ∧ zgi B2 3 = zI (len + 2) ∧ (∀ j, j < len → zga B2 0 j = zga B 0 j) ∧ zga B2 0 len = zI (48 + d / 10) ∧ zga B2 0 (len + 1) = zI (48 + d % 10) := by
        unfold fJ4_append_bf812
        rw [h1, h3]
        refine ⟨_, (if_neg (fun g => g.2.2.1 d2)).trans (if_pos ⟨rfl, d1, d2, d3, l1, d4, d5, d6, l2, l3⟩), ?_, ?_, fun j hj => ?_, ?_, ?_⟩
        · rw [gi_sin (by omega)]; exact h1
        · rw [gi_si, l6]
        · rw [ga_si]
          exact (zsw_n l5 (by omega)).trans (zsw_n l4 (by omega))
        · rw [ga_si]
          refine (zsw_s l5).trans ?_
          rw [d8, zld_y _ (by omega)]
        · rw [ga_si]
          refine (zsw_n l5 (by omega)).trans ((zsw_s l4).trans ?_)
          rw [d7, zld_y _ (by omega)]
      obtain ⟨B2, b0, b1, b3, bj, bn, bm⟩ := hb
      rw [if_neg c]
      refine ⟨_, B2, 2, rfl, b0, zLb_k h zLp_1 b1 b3 (fun j hj => (zLp_n (by omega)).trans (zLp_n (by omega))) bj (fun j hj hj2 => ?_), by omega⟩
      have : j = len ∨ j = len + 1 := by omega
      rcases this with rfl | rfl
      · exact ⟨48 + d / 10, by omega, (zLp_n (by omega)).trans zLp_s, bn⟩
      · exact ⟨48 + d % 10, by omega, zLp_s, bm⟩
  · obtain ⟨n1, n2, n3, n4, n5, n6⟩ := zlc_n d (by omega) hd0
    have p0 : ¬ (0 : Int32) ≤ x := by rw [e]; exact n1
    rw [if_neg p0, if_neg p0, show (45 : Int32) = zI 45 from rfl, eX3_put h.1 (by omega) (by omega), zbq, e, n3, znum_21 zLp_1 (by omega) (by omega)]
    by_cases c : d < 10
    · obtain ⟨l1, l2, l3, l4, l5, l6⟩ := zla_n len (by omega)
      obtain ⟨d1, d2, d3, d4, d5, d6⟩ := zlb_n d c hd0
      have hb : ∃ B2, fJ4_append_bf812 B (-(zI d)) = some B2 ∧ zgi B2 1 = 0 ∧ zgi B2 3 = zI (len + 2) ∧ (∀ j, j < len → zga B2 0 j = zga B 0 j) ∧ zga B2 0 len = zI 45 ∧ zga B2 0 (len + 1) = zI (48 + d) := by
        unfold fJ4_append_bf812
        rw [h1, h3]
        refine ⟨_, (if_neg (fun g => g.2.1 d1)).trans ((if_neg (fun g => g.2.1 d1)).trans (if_pos ⟨rfl, d1, d2, l1, d3, d4, d5, l2, l3⟩)), ?_, ?_, fun j hj => ?_, ?_, ?_⟩
        · rw [gi_sin (by omega)]; exact h1
        · rw [gi_si, l6]
        · rw [ga_si]
          exact (zsw_n l5 (by omega)).trans (zsw_n l4 (by omega))
        · rw [ga_si]
          refine (zsw_s l5).trans ?_
          exact zld_y 45 (by omega)
        · rw [ga_si]
          refine (zsw_n l5 (by omega)).trans ((zsw_s l4).trans ?_)
          rw [d6, zld_y _ (by omega)]
      obtain ⟨B2, b0, b1, b3, bj, bn, bm⟩ := hb
      rw [if_pos c]
      refine ⟨_, B2, 2, rfl, b0, zLb_k h zLp_1 b1 b3 (fun j hj => (zLp_n (by omega)).trans (zLp_n (by omega))) bj (fun j hj hj2 => ?_), by omega⟩
      have : j = len ∨ j = len + 1 := by omega
      rcases this with rfl | rfl
      · exact ⟨45, by omega, (zLp_n (by omega)).trans zLp_s, bn⟩
      · exact ⟨48 + d, by omega, zLp_s, bm⟩
    · obtain ⟨l1, l2, l3, l4, l5, l6, l7, l8⟩ := zla_3 len (by omega)
      obtain ⟨d1, d2, d3, d4, d5, d6, d7, d8⟩ := zlb_3 d (by omega) (by omega)
      have hb : ∃ B2, fJ4_append_bf812 B (-(zI d)) = some B2 ∧ zgi B2 1 = 0 ∧ zgi B2 3 = zI (len + 3) ∧ (∀ j, j < len → zga B2 0 j = zga B 0 j) ∧ zga B2 0 len = zI 45 ∧ zga B2 0 (len + 1) = zI (48 + d / 10) ∧ zga B2 0 (len + 2) = zI (48 + d % 10) := by
        unfold fJ4_append_bf812
        rw [h1, h3]
        refine ⟨_, (if_neg (fun g => g.2.1 d1)).trans ((if_neg (fun g => g.2.1 d1)).trans ((if_neg (fun g => g.2.2.1 d2)).trans (if_pos ⟨rfl, d1, d2, d3, l1, d4, d5, d6, l2, l3, l4⟩))), ?_, ?_, fun j hj => ?_, ?_, ?_, ?_⟩
        · rw [gi_sin (by omega)]; exact h1
        · rw [gi_si, l8]
        · rw [ga_si]
          exact (zsw_n l7 (by omega)).trans ((zsw_n l6 (by omega)).trans (zsw_n l5 (by omega)))
        · rw [ga_si]
          refine (zsw_s l7).trans ?_
          exact zld_y 45 (by omega)
        · rw [ga_si]
          refine (zsw_n l7 (by omega)).trans ((zsw_s l6).trans ?_)
          rw [d8, zld_y _ (by omega)]
        · rw [ga_si]
          refine (zsw_n l7 (by omega)).trans ((zsw_n l6 (by omega)).trans ((zsw_s l5).trans ?_))
          rw [d7, zld_y _ (by omega)]
      obtain ⟨B2, b0, b1, b3, bj, bn, bm, bo⟩ := hb
      rw [if_neg c]
      refine ⟨_, B2, 3, rfl, b0, zLb_k h zLp_1 b1 b3 (fun j hj => (zLp_n (by omega)).trans ((zLp_n (by omega)).trans (zLp_n (by omega)))) bj (fun j hj hj2 => ?_), by omega⟩
      have : j = len ∨ j = len + 1 ∨ j = len + 2 := by omega
      rcases this with rfl | rfl | rfl
      · exact ⟨45, by omega, (zLp_n (by omega)).trans ((zLp_n (by omega)).trans zLp_s), bn⟩
      · exact ⟨48 + d / 10, by omega, (zLp_n (by omega)).trans zLp_s, bm⟩
      · exact ⟨48 + d % 10, by omega, zLp_s, bo⟩
end ZLINE
