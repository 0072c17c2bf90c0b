/-! 63: the reference's planes: determinants, the point on three planes, what fits. -/
def zPl (O : zSt) (L : List (zV × Nat)) : Prop :=
  zgi O 31 = zI L.length ∧ ∀ k v, L[k]? = some v → (zgb O 19 (3 * k)).toInt = v.1.1 ∧ (zgb O 19 (3 * k + 1)).toInt = v.1.2.1 ∧ (zgb O 19 (3 * k + 2)).toInt = v.1.2.2.1 ∧ (zgb O 20 k).toInt = -v.1.2.2.2 ∧ zga O 24 k = zI v.2
theorem zm1_0 : ((-1 : Int32) = zI 0) = False := by decide
theorem zm1_1 : ((-1 : Int32) = zI 1) = False := by decide
theorem zm1_2 : ((-1 : Int32) = zI 2) = False := by decide
theorem zn48 : (48 : Int32) = zI 48 := rfl
theorem zdet64 {a b c d e f g h i : Int64} (ha : zab a.toInt 1350) (hb : zab b.toInt 1350) (hc : zab c.toInt 1350) (hd : zab d.toInt 1350) (he : zab e.toInt 1350) (hf : zab f.toInt 1350) (hg : zab g.toInt 1350) (hh : zab h.toInt 1350) (hi : zab i.toInt 1350) :
    (((a * ((e * i) - (f * h))) - (b * ((d * i) - (f * g)))) + (c * ((d * h) - (e * g)))).toInt = a.toInt * (e.toInt * i.toInt - f.toInt * h.toInt) - b.toInt * (d.toInt * i.toInt - f.toInt * g.toInt) + c.toInt * (d.toInt * h.toInt - e.toInt * g.toInt) := by
  have m := fun (x y : Int64) (hx : zab x.toInt 1350) (hy : zab y.toInt 1350) => z64mul hx hy (by omega)
  have mb := fun (x y : Int64) (hx : zab x.toInt 1350) (hy : zab y.toInt 1350) => show zab (x * y).toInt 1822500 by rw [m x y hx hy]; exact zab_mul hx hy
  have s := fun (x y z w : Int64) (hx : zab x.toInt 1350) (hy : zab y.toInt 1350) (hz : zab z.toInt 1350) (hw : zab w.toInt 1350) => z64sub (mb x y hx hy) (mb z w hz hw) (by omega)
  have sb := fun (x y z w : Int64) (hx : zab x.toInt 1350) (hy : zab y.toInt 1350) (hz : zab z.toInt 1350) (hw : zab w.toInt 1350) => show zab (x * y - z * w).toInt 3645000 by rw [s x y z w hx hy hz hw]; exact zab_sub (mb x y hx hy) (mb z w hz hw)
  have p1 := z64mul ha (sb e i f h he hi hf hh) (by omega)
  have p2 := z64mul hb (sb d i f g hd hi hf hg) (by omega)
  have p3 := z64mul hc (sb d h e g hd hh he hg) (by omega)
  have b1 : zab (a * (e * i - f * h)).toInt 4920750000 := by rw [p1]; exact zab_mul ha (sb e i f h he hi hf hh)
  have b2 : zab (b * (d * i - f * g)).toInt 4920750000 := by rw [p2]; exact zab_mul hb (sb d i f g hd hi hf hg)
  have b3 : zab (c * (d * h - e * g)).toInt 4920750000 := by rw [p3]; exact zab_mul hc (sb d h e g hd hh he hg)
  have q1 := z64sub b1 b2 (by omega)
  have b4 : zab (a * (e * i - f * h) - b * (d * i - f * g)).toInt 9841500000 := by rw [q1]; exact zab_sub b1 b2
  rw [z64add b4 b3 (by omega), q1, p1, p2, p3, s e i f h he hi hf hh, s d i f g hd hi hf hg, s d h e g hd hh he hg, m e i he hi, m f h hf hh, m d i hd hi, m f g hf hg, m d h hd hh, m e g he hg]
/-- the columns with one replaced by the ends -/
def zcol (u v w : zV) : Nat → Int
  | 0 => zd3 (-u.2.2.2, u.2.1, u.2.2.1, 0) (-v.2.2.2, v.2.1, v.2.2.1, 0) (-w.2.2.2, w.2.1, w.2.2.1, 0)
  | 1 => zd3 (u.1, -u.2.2.2, u.2.2.1, 0) (v.1, -v.2.2.2, v.2.2.1, 0) (w.1, -w.2.2.2, w.2.2.1, 0)
  | _ => zd3 (u.1, u.2.1, -u.2.2.2, 0) (v.1, v.2.1, -v.2.2.2, 0) (w.1, w.2.1, -w.2.2.2, 0)
theorem zcol_d4 (u v w : zV) {n : Nat} (hn : n < 3) : zcol u v w n = zd4 u v w (zE n) := by
  obtain ⟨u0, u1, u2, u3⟩ := u
  obtain ⟨v0, v1, v2, v3⟩ := v
  obtain ⟨w0, w1, w2, w3⟩ := w
  rcases zlt3 hn with rfl | rfl | rfl <;> simp only [zcol, zE, zd4, zd3] <;> grind
def ztr (u v w : zV) : Nat → zV
  | 0 => u
  | 1 => v
  | _ => w
theorem zdsel0 {O : zSt} {i : Nat} (hi : i < 16) (x2 x3 x4 : Int32) : fX12_determinant O (zI i) x2 x3 x4 = fX12_determinant_22 O (zI i) x2 x3 x4  (if x4 = 0 then zgb O 20 i else zgb O 19 (3 * i)) := by
  unfold fX12_determinant
  by_cases c : x4 = 0
  · rw [if_pos c, if_pos c, if_pos (zin_zI hi (by omega)), zI_nat (by omega)]
  · rw [if_neg c, if_neg c]
    simp (disch := omega) only [zn1, zn2, zn3, zI_mul, zI_add, zin_zI, if_true, zI_nat]
theorem zdsel1 {O : zSt} {i : Nat} (hi : i < 16) (x2 x3 x4 : Int32) (a0 : Int64) : fX12_determinant_22 O (zI i) x2 x3 x4 a0 = fX12_determinant_49 O (zI i) x2 x3 x4 a0 (if x4 = 1 then zgb O 20 i else zgb O 19 (3 * i + 1)) := by
  unfold fX12_determinant_22
  by_cases c : x4 = 1
  · rw [if_pos c, if_pos c, if_pos (zin_zI hi (by omega)), zI_nat (by omega)]
  · rw [if_neg c, if_neg c]
    simp (disch := omega) only [zn1, zn2, zn3, zI_mul, zI_add, zin_zI, if_true, zI_nat]
theorem zdsel2 {O : zSt} {i : Nat} (hi : i < 16) (x2 x3 x4 : Int32) (a0 a1 : Int64) : fX12_determinant_49 O (zI i) x2 x3 x4 a0 a1 = fX12_determinant_76 O x2 x3 x4 a0 a1 (if x4 = 2 then zgb O 20 i else zgb O 19 (3 * i + 2)) := by
  unfold fX12_determinant_49
  by_cases c : x4 = 2
  · rw [if_pos c, if_pos c, if_pos (zin_zI hi (by omega)), zI_nat (by omega)]
  · rw [if_neg c, if_neg c]
    simp (disch := omega) only [zn1, zn2, zn3, zI_mul, zI_add, zin_zI, if_true, zI_nat]
theorem zdsel3 {O : zSt} {i : Nat} (hi : i < 16) (x3 x4 : Int32) (a0 a1 a2 : Int64) : fX12_determinant_76 O (zI i) x3 x4 a0 a1 a2 = fX12_determinant_100 O (zI i) x3 x4 a0 a1 a2 (if x4 = 0 then zgb O 20 i else zgb O 19 (3 * i)) := by
  unfold fX12_determinant_76
  by_cases c : x4 = 0
  · rw [if_pos c, if_pos c, if_pos (zin_zI hi (by omega)), zI_nat (by omega)]
  · rw [if_neg c, if_neg c]
    simp (disch := omega) only [zn1, zn2, zn3, zI_mul, zI_add, zin_zI, if_true, zI_nat]
theorem zdsel4 {O : zSt} {i : Nat} (hi : i < 16) (x3 x4 : Int32) (a0 a1 a2 a3 : Int64) : fX12_determinant_100 O (zI i) x3 x4 a0 a1 a2 a3 = fX12_determinant_127 O (zI i) x3 x4 a0 a1 a2 a3 (if x4 = 1 then zgb O 20 i else zgb O 19 (3 * i + 1)) := by
  unfold fX12_determinant_100
  by_cases c : x4 = 1
  · rw [if_pos c, if_pos c, if_pos (zin_zI hi (by omega)), zI_nat (by omega)]
  · rw [if_neg c, if_neg c]
    simp (disch := omega) only [zn1, zn2, zn3, zI_mul, zI_add, zin_zI, if_true, zI_nat]
theorem zdsel5 {O : zSt} {i : Nat} (hi : i < 16) (x3 x4 : Int32) (a0 a1 a2 a3 a4 : Int64) : fX12_determinant_127 O (zI i) x3 x4 a0 a1 a2 a3 a4 = fX12_determinant_154 O x3 x4 a0 a1 a2 a3 a4 (if x4 = 2 then zgb O 20 i else zgb O 19 (3 * i + 2)) := by
  unfold fX12_determinant_127
  by_cases c : x4 = 2
  · rw [if_pos c, if_pos c, if_pos (zin_zI hi (by omega)), zI_nat (by omega)]
  · rw [if_neg c, if_neg c]
    simp (disch := omega) only [zn1, zn2, zn3, zI_mul, zI_add, zin_zI, if_true, zI_nat]
theorem zdsel6 {O : zSt} {i : Nat} (hi : i < 16) (x4 : Int32) (a0 a1 a2 a3 a4 a5 : Int64) : fX12_determinant_154 O (zI i) x4 a0 a1 a2 a3 a4 a5 = fX12_determinant_178 O (zI i) x4 a0 a1 a2 a3 a4 a5 (if x4 = 0 then zgb O 20 i else zgb O 19 (3 * i)) := by
  unfold fX12_determinant_154
  by_cases c : x4 = 0
  · rw [if_pos c, if_pos c, if_pos (zin_zI hi (by omega)), zI_nat (by omega)]
  · rw [if_neg c, if_neg c]
    simp (disch := omega) only [zn1, zn2, zn3, zI_mul, zI_add, zin_zI, if_true, zI_nat]
theorem zdsel7 {O : zSt} {i : Nat} (hi : i < 16) (x4 : Int32) (a0 a1 a2 a3 a4 a5 a6 : Int64) : fX12_determinant_178 O (zI i) x4 a0 a1 a2 a3 a4 a5 a6 = fX12_determinant_205 O (zI i) x4 a0 a1 a2 a3 a4 a5 a6 (if x4 = 1 then zgb O 20 i else zgb O 19 (3 * i + 1)) := by
  unfold fX12_determinant_178
  by_cases c : x4 = 1
  · rw [if_pos c, if_pos c, if_pos (zin_zI hi (by omega)), zI_nat (by omega)]
  · rw [if_neg c, if_neg c]
    simp (disch := omega) only [zn1, zn2, zn3, zI_mul, zI_add, zin_zI, if_true, zI_nat]
theorem zdsel8 {O : zSt} {i : Nat} (hi : i < 16) (x4 : Int32) (a0 a1 a2 a3 a4 a5 a6 a7 : Int64) : fX12_determinant_205 O (zI i) x4 a0 a1 a2 a3 a4 a5 a6 a7 = fX12_determinant_232 O  a0 a1 a2 a3 a4 a5 a6 a7 (if x4 = 2 then zgb O 20 i else zgb O 19 (3 * i + 2)) := by
  unfold fX12_determinant_205
  by_cases c : x4 = 2
  · rw [if_pos c, if_pos c, if_pos (zin_zI hi (by omega)), zI_nat (by omega)]
  · rw [if_neg c, if_neg c]
    simp (disch := omega) only [zn1, zn2, zn3, zI_mul, zI_add, zin_zI, if_true, zI_nat]
section ZDET
variable {O : zSt} {L : List (zV × Nat)} {i j k : Nat} {u v w : zV × Nat}
theorem zPl_b (h : zPl O L) (hb : ∀ (k : Nat) (v : zV × Nat), L[k]? = some v → zvb v.1) (hi : L[i]? = some u) : zab (zgb O 19 (3 * i)).toInt 1350 ∧ zab (zgb O 19 (3 * i + 1)).toInt 1350 ∧ zab (zgb O 19 (3 * i + 2)).toInt 1350 ∧ zab (zgb O 20 i).toInt 1350 := by
  obtain ⟨a1, a2, a3, a4, -⟩ := h.2 i u hi
  obtain ⟨b1, b2, b3, b4⟩ := hb i u hi
  rw [a1, a2, a3, a4]
  exact ⟨zab_le b1 (by omega), zab_le b2 (by omega), zab_le b3 (by omega), zab_neg b4⟩
theorem eX12_det (h : zPl O L) (hlen : L.length ≤ 16) (hb : ∀ (k : Nat) (v : zV × Nat), L[k]? = some v → zvb v.1) (hi : L[i]? = some u) (hj : L[j]? = some v) (hk : L[k]? = some w) : ∃ d, fX12_determinant O (zI i) (zI j) (zI k) (-1) = some d ∧ d.toInt = zd3 u.1 v.1 w.1 := by
  have li := (List.getElem?_eq_some_iff.mp hi).1
  have lj := (List.getElem?_eq_some_iff.mp hj).1
  have lk := (List.getElem?_eq_some_iff.mp hk).1
  obtain ⟨a1, a2, a3, a4, -⟩ := h.2 i u hi
  obtain ⟨c1, c2, c3, c4, -⟩ := h.2 j v hj
  obtain ⟨d1, d2, d3, d4, -⟩ := h.2 k w hk
  obtain ⟨p1, p2, p3, p4⟩ := zPl_b h hb hi
  obtain ⟨q1, q2, q3, q4⟩ := zPl_b h hb hj
  obtain ⟨r1, r2, r3, r4⟩ := zPl_b h hb hk
  rw [zdsel0 (by omega), zdsel1 (by omega), zdsel2 (by omega), zdsel3 (by omega), zdsel4 (by omega), zdsel5 (by omega), zdsel6 (by omega), zdsel7 (by omega), zdsel8 (by omega)]
  rw [if_neg (by decide), if_neg (by decide), if_neg (by decide), if_neg (by decide), if_neg (by decide), if_neg (by decide), if_neg (by decide), if_neg (by decide), if_neg (by decide)]
  refine ⟨_, rfl, ?_⟩
  rw [zdet64 p1 p2 p3 q1 q2 q3 r1 r2 r3, a1, a2, a3, c1, c2, c3, d1, d2, d3]
  rfl
theorem eX12_detn (h : zPl O L) (hlen : L.length ≤ 16) (hb : ∀ (k : Nat) (v : zV × Nat), L[k]? = some v → zvb v.1) (hi : L[i]? = some u) (hj : L[j]? = some v) (hk : L[k]? = some w) {n : Nat} (hn : n < 3) : ∃ d, fX12_determinant O (zI i) (zI j) (zI k) (zI n) = some d ∧ d.toInt = zd4 u.1 v.1 w.1 (zE n) := by
  have li := (List.getElem?_eq_some_iff.mp hi).1
  have lj := (List.getElem?_eq_some_iff.mp hj).1
  have lk := (List.getElem?_eq_some_iff.mp hk).1
  obtain ⟨a1, a2, a3, a4, -⟩ := h.2 i u hi
  obtain ⟨c1, c2, c3, c4, -⟩ := h.2 j v hj
  obtain ⟨d1, d2, d3, d4, -⟩ := h.2 k w hk
  obtain ⟨p1, p2, p3, p4⟩ := zPl_b h hb hi
  obtain ⟨q1, q2, q3, q4⟩ := zPl_b h hb hj
  obtain ⟨r1, r2, r3, r4⟩ := zPl_b h hb hk
  rw [← zcol_d4 _ _ _ hn]
  rw [zdsel0 (by omega), zdsel1 (by omega), zdsel2 (by omega), zdsel3 (by omega), zdsel4 (by omega), zdsel5 (by omega), zdsel6 (by omega), zdsel7 (by omega), zdsel8 (by omega)]
  rcases zlt3 hn with rfl | rfl | rfl
  · rw [if_pos (show zI 0 = 0 from rfl), if_neg (show ¬ zI 0 = 1 by decide), if_neg (show ¬ zI 0 = 2 by decide), if_pos (show zI 0 = 0 from rfl), if_neg (show ¬ zI 0 = 1 by decide), if_neg (show ¬ zI 0 = 2 by decide), if_pos (show zI 0 = 0 from rfl), if_neg (show ¬ zI 0 = 1 by decide), if_neg (show ¬ zI 0 = 2 by decide)]
    refine ⟨_, rfl, ?_⟩
    rw [zdet64 p4 p2 p3 q4 q2 q3 r4 r2 r3, a4, a2, a3, c4, c2, c3, d4, d2, d3]
    rfl
  · rw [if_neg (show ¬ zI 1 = 0 by decide), if_pos (show zI 1 = 1 from rfl), if_neg (show ¬ zI 1 = 2 by decide), if_neg (show ¬ zI 1 = 0 by decide), if_pos (show zI 1 = 1 from rfl), if_neg (show ¬ zI 1 = 2 by decide), if_neg (show ¬ zI 1 = 0 by decide), if_pos (show zI 1 = 1 from rfl), if_neg (show ¬ zI 1 = 2 by decide)]
    refine ⟨_, rfl, ?_⟩
    rw [zdet64 p1 p4 p3 q1 q4 q3 r1 r4 r3, a1, a4, a3, c1, c4, c3, d1, d4, d3]
    rfl
  · rw [if_neg (show ¬ zI 2 = 0 by decide), if_neg (show ¬ zI 2 = 1 by decide), if_pos (show zI 2 = 2 from rfl), if_neg (show ¬ zI 2 = 0 by decide), if_neg (show ¬ zI 2 = 1 by decide), if_pos (show zI 2 = 2 from rfl), if_neg (show ¬ zI 2 = 0 by decide), if_neg (show ¬ zI 2 = 1 by decide), if_pos (show zI 2 = 2 from rfl)]
    refine ⟨_, rfl, ?_⟩
    rw [zdet64 p1 p2 p4 q1 q2 q4 r1 r2 r4, a1, a2, a4, c1, c2, c4, d1, d2, d4]
    rfl
end ZDET
/-- the same but for one array of longs -/
def zFb (O O2 : zSt) (a : Nat) : Prop := (∀ k, zgi O2 k = zgi O k) ∧ (∀ k, zgl O2 k = zgl O k) ∧ (∀ k, zga O2 k = zga O k) ∧ ∀ k, k ≠ a → zgb O2 k = zgb O k
theorem zPl_fb {O O2 : zSt} {L : List (zV × Nat)} (h : zPl O L) (hf : zFb O O2 27) : zPl O2 L := by
  obtain ⟨f1, f2, f3, f4⟩ := hf
  refine ⟨by rw [f1]; exact h.1, fun k v hv => ?_⟩
  rw [f4 19 (by omega), f4 20 (by omega), f3 24]
  exact h.2 k v hv
/-- what was solved holds X -/
def zSol (O : zSt) (X : zV) : Prop := (∀ n, n < 3 → (zgb O 27 n).toInt = zco X n) ∧ (zgb O 27 3).toInt = X.2.2.2
theorem zco_Xb (t : Nat → zV) {n : Nat} (hn : n < 3) : zco (zXb t) n = zc t (zE n) 3 := by
  rcases zlt3 hn with rfl | rfl | rfl <;> rfl
theorem zsolve_38 {O : zSt} {L : List (zV × Nat)} {i j k : Nat} {u v w : zV × Nat} (h : zPl O L) (hlen : L.length ≤ 16) (hb : ∀ (k : Nat) (v : zV × Nat), L[k]? = some v → zvb v.1) (hi : L[i]? = some u) (hj : L[j]? = some v) (hk : L[k]? = some w) {x4 x6 : Int64} (h4 : x4.toInt = zd3 u.1 v.1 w.1) (h6 : x6.toInt = zsg (ztr u.1 v.1 w.1)) : ∀ (d n f : Nat) (O2 : zSt), n + d = 3 → d < f → zFb O O2 27 → (∀ m, m < n → (zgb O2 27 m).toInt = zco (zXb (ztr u.1 v.1 w.1)) m) → ∃ O3, fX12_solves_38 f O2 (zI i) (zI j) (zI k) x4 x6 (zI n) = some (1, O3) ∧ zFb O O3 27 ∧ zSol O3 (zXb (ztr u.1 v.1 w.1))
  | 0, n, f + 1, O2, hn, hf, hF, hs => by
    have hx : x6.toInt = 1 ∨ x6.toInt = -1 := by
      rw [h6]
      rcases zsg_or (ztr u.1 v.1 w.1) with ⟨-, e⟩ | ⟨-, e⟩ <;> rw [e] <;> simp
    have b6 : zab x6.toInt 1 := by rcases hx with e | e <;> rw [e] <;> unfold zab <;> omega
    have b4 : zab x4.toInt 4374 := by rw [h4]; exact zd3_b (hb i u hi) (hb j v hj) (hb k w hk)
    have p := z64mul b6 b4 (by omega)
    rw [fX12_solves_38]
    simp (disch := omega) only [zn3, zI_le_t, if_true, zin_zI, zI_nat, zlq]
    refine ⟨_, rfl, ⟨hF.1, hF.2.1, hF.2.2.1, fun k hk => by rw [gb_sbn hk]; exact hF.2.2.2 k hk⟩, fun m hm => ?_, ?_⟩
    · rw [gb_sb, updL_n (by omega), hs m (by omega)]
    · rw [gb_sb, updL_s rfl, p, h6, h4]
      rfl
  | d + 1, n, f + 1, O2, hn, hf, hF, hs => by
    have hx : x6.toInt = 1 ∨ x6.toInt = -1 := by
      rw [h6]
      rcases zsg_or (ztr u.1 v.1 w.1) with ⟨-, e⟩ | ⟨-, e⟩ <;> rw [e] <;> simp
    have b6 : zab x6.toInt 1 := by rcases hx with e | e <;> rw [e] <;> unfold zab <;> omega
    obtain ⟨dv, g1, g2⟩ := eX12_detn (zPl_fb h hF) hlen hb hi hj hk (show n < 3 by omega)
    have b4 : zab dv.toInt 23619600 := by rw [g2]; exact zd4_b (hb i u hi) (hb j v hj) (hb k w hk) (zvbE n)
    have p := z64mul b6 b4 (by omega)
    rw [h6, g2] at p
    rw [fX12_solves_38]
    simp (disch := omega) only [zn3, zI_le_f, if_false, g1, zbq, zn4, zin_zI, if_true, zI_nat, zlq]
    rw [zn1, zI_add]
    refine zsolve_38 h hlen hb hi hj hk h4 h6 d (n + 1) f _ (by omega) (by omega) ⟨hF.1, hF.2.1, hF.2.2.1, fun k hk => by rw [gb_sbn hk]; exact hF.2.2.2 k hk⟩ (fun m hm => ?_)
    rw [gb_sb]
    by_cases c : m = n
    · rw [updL_s c, p, c, zco_Xb _ (by omega)]
      rfl
    · rw [updL_n c, hs m (by omega)]
theorem eX12_solves {O : zSt} {L : List (zV × Nat)} {i j k : Nat} {u v w : zV × Nat} (h : zPl O L) (hlen : L.length ≤ 16) (hb : ∀ (k : Nat) (v : zV × Nat), L[k]? = some v → zvb v.1) (hi : L[i]? = some u) (hj : L[j]? = some v) (hk : L[k]? = some w) : ∃ y O2, fX12_solves O (zI i) (zI j) (zI k) = some (y, O2) ∧ ((y = 0 ∧ zd3 u.1 v.1 w.1 = 0 ∧ O2 = O) ∨ (y = 1 ∧ zd3 u.1 v.1 w.1 ≠ 0 ∧ zFb O O2 27 ∧ zSol O2 (zXb (ztr u.1 v.1 w.1)))) := by
  obtain ⟨d, g1, g2⟩ := eX12_det h hlen hb hi hj hk
  unfold fX12_solves
  rw [g1]
  simp only [zbq]
  have hdt : zdtr (ztr u.1 v.1 w.1) = zd3 u.1 v.1 w.1 := rfl
  by_cases c : d = 0
  · rw [if_pos c]
    rw [z64eq, g2, z64_0] at c
    exact ⟨0, O, rfl, Or.inl ⟨rfl, c, rfl⟩⟩
  · rw [if_neg c]
    rw [z64eq, g2, z64_0] at c
    have st : zFb O O 27 := ⟨fun _ => rfl, fun _ => rfl, fun _ => rfl, fun _ _ => rfl⟩
    by_cases c2 : (0 : Int64) ≤ d
    · rw [if_pos c2]
      rw [z64le, g2, z64_0] at c2
      have h6 : (1 : Int64).toInt = zsg (ztr u.1 v.1 w.1) := by
        unfold zsg
        rw [hdt, if_neg (by omega)]
        decide
      obtain ⟨O3, f1, f2, f3⟩ := zsolve_38 h hlen hb hi hj hk g2 h6 3 0 6000 O (by omega) (by omega) st (fun m hm => by omega)
      unfold fX12_solves_33
      rw [zn0]
      exact ⟨1, O3, f1, Or.inr ⟨rfl, c, f2, f3⟩⟩
    · rw [if_neg c2]
      rw [z64le, g2, z64_0] at c2
      have h6 : (-1 : Int64).toInt = zsg (ztr u.1 v.1 w.1) := by
        unfold zsg
        rw [hdt, if_pos (by omega)]
        decide
      obtain ⟨O3, f1, f2, f3⟩ := zsolve_38 h hlen hb hi hj hk g2 h6 3 0 6000 O (by omega) (by omega) st (fun m hm => by omega)
      unfold fX12_solves_33
      rw [zn0]
      exact ⟨1, O3, f1, Or.inr ⟨rfl, c, f2, f3⟩⟩
-- fits
def zhold (kd : Nat) (v : Int) : Prop := (kd = 0 → v ≤ 0) ∧ (kd = 1 → 0 ≤ v) ∧ (kd = 2 → v = 0)
def zfit (L : List (zV × Nat)) (many : Nat) (X : zV) : Prop := ∀ k, k < many → ∀ v, L[k]? = some v → zhold v.2 (zev v.1 X)
theorem zmore {O : zSt} {L : List (zV × Nat)} {k : Nat} {v : zV × Nat} {X : zV} (h : zPl O L) (hb : ∀ (k : Nat) (v : zV × Nat), L[k]? = some v → zvb v.1) (hv : L[k]? = some v) (hS : zSol O X) (hX : (∀ n, n < 3 → zab (zco X n) 23619600) ∧ zab X.2.2.2 23619600) :
    (((((zgb O 19 (3 * k)) * (zgb O 27 0)) + ((zgb O 19 (3 * k + 1)) * (zgb O 27 1))) + ((zgb O 19 (3 * k + 2)) * (zgb O 27 2))) - ((zgb O 20 k) * (zgb O 27 3))).toInt = zev v.1 X := by
  obtain ⟨a1, a2, a3, a4, -⟩ := h.2 k v hv
  obtain ⟨b1, b2, b3, b4⟩ := zPl_b h hb hv
  have s0 := hS.1 0 (by omega)
  have s1 := hS.1 1 (by omega)
  have s2 := hS.1 2 (by omega)
  have s3 := hS.2
  have x0 : zab (zgb O 27 0).toInt 23619600 := by rw [s0]; exact hX.1 0 (by omega)
  have x1 : zab (zgb O 27 1).toInt 23619600 := by rw [s1]; exact hX.1 1 (by omega)
  have x2 : zab (zgb O 27 2).toInt 23619600 := by rw [s2]; exact hX.1 2 (by omega)
  have x3 : zab (zgb O 27 3).toInt 23619600 := by rw [s3]; exact hX.2
  have m0 := z64mul b1 x0 (by omega)
  have m1 := z64mul b2 x1 (by omega)
  have m2 := z64mul b3 x2 (by omega)
  have m3 := z64mul b4 x3 (by omega)
  have c0 : zab (zgb O 19 (3 * k) * zgb O 27 0).toInt 31886460000 := by rw [m0]; exact zab_mul b1 x0
  have c1 : zab (zgb O 19 (3 * k + 1) * zgb O 27 1).toInt 31886460000 := by rw [m1]; exact zab_mul b2 x1
  have c2 : zab (zgb O 19 (3 * k + 2) * zgb O 27 2).toInt 31886460000 := by rw [m2]; exact zab_mul b3 x2
  have c3 : zab (zgb O 20 k * zgb O 27 3).toInt 31886460000 := by rw [m3]; exact zab_mul b4 x3
  have p1 := z64add c0 c1 (by omega)
  have d1 : zab (zgb O 19 (3 * k) * zgb O 27 0 + zgb O 19 (3 * k + 1) * zgb O 27 1).toInt 63772920000 := by rw [p1]; exact zab_add c0 c1
  have p2 := z64add d1 c2 (by omega)
  have d2 : zab (zgb O 19 (3 * k) * zgb O 27 0 + zgb O 19 (3 * k + 1) * zgb O 27 1 + zgb O 19 (3 * k + 2) * zgb O 27 2).toInt 95659380000 := by rw [p2]; exact zab_add d1 c2
  rw [z64sub d2 c3 (by omega), p2, p1, m0, m1, m2, m3, a1, a2, a3, a4, s0, s1, s2, s3]
  unfold zev
  simp only [zco]
  rw [Int.neg_mul]
  omega
theorem zfits_2 {O : zSt} {L : List (zV × Nat)} {X : zV} (h : zPl O L) (hlen : L.length ≤ 16) (hb : ∀ (k : Nat) (v : zV × Nat), L[k]? = some v → zvb v.1) (hkd : ∀ (k : Nat) (v : zV × Nat), L[k]? = some v → v.2 < 3) (hS : zSol O X) (hX : (∀ n, n < 3 → zab (zco X n) 23619600) ∧ zab X.2.2.2 23619600) {many : Nat} (hm : many ≤ L.length) : ∀ (d k f : Nat), k + d = many → d < f → zfit L k X → ∃ y, fX12_fits_2 O f (zI many) (zI k) = some y ∧ ((y = 1 ∧ zfit L many X) ∨ (y = 0 ∧ ¬ zfit L many X))
  | 0, k, f + 1, hk, hf, hp => by
    have e : k = many := by omega
    subst e
    rw [fX12_fits_2]
    simp (disch := omega) only [zI_le_t, if_true]
    exact ⟨1, rfl, Or.inl ⟨rfl, hp⟩⟩
  | d + 1, k, f + 1, hk, hf, hp => by
    obtain ⟨v, hv⟩ : ∃ v, L[k]? = some v := ⟨L[k]'(by omega), List.getElem?_eq_getElem (by omega)⟩
    have hmore := zmore h hb hv hS hX
    have hkind := (h.2 k v hv).2.2.2.2
    have hk3 := hkd k v hv
    have bad : ¬ zhold v.2 (zev v.1 X) → ∃ y, (some (0 : Int32)) = some y ∧ ((y = 1 ∧ zfit L many X) ∨ (y = 0 ∧ ¬ zfit L many X)) := fun hn => ⟨0, rfl, Or.inr ⟨rfl, fun hall => hn (hall k (by omega) v hv)⟩⟩
    have good : zhold v.2 (zev v.1 X) → ∃ y, fX12_fits_2 O f (zI many) (zI (k + 1)) = some y ∧ ((y = 1 ∧ zfit L many X) ∨ (y = 0 ∧ ¬ zfit L many X)) := by
      intro hg
      refine zfits_2 h hlen hb hkd hS hX hm d (k + 1) f (by omega) (by omega) (fun r hr v2 hv2 => ?_)
      by_cases c : r = k
      · subst c
        rw [hv] at hv2
        cases hv2
        exact hg
      · exact hp r (by omega) v2 hv2
    rw [fX12_fits_2]
    have z10 : zI 0 = zI 0 := rfl
    simp (disch := omega) only [zI_le_f, if_false, zn0, zn1, zn2, zn3, zI_mul, zI_add, zin_zI, if_true, zI_nat, zlq, hkind]
    generalize hmr : (((((zgb O 19 (3 * k)) * (zgb O 27 0)) + ((zgb O 19 (3 * k + 1)) * (zgb O 27 1))) + ((zgb O 19 (3 * k + 2)) * (zgb O 27 2))) - ((zgb O 20 k) * (zgb O 27 3))) = mr at hmore ⊢
    rcases zlt3 hk3 with e | e | e
    · rw [e] at bad good hkind ⊢
      simp (disch := omega) only [if_true, fX12_fits_120, fX12_fits_88, fX12_fits_104, zin_zI, zn0, zn1, zn2, zI_eq_f, if_false, hkind, zI_nat, fX12_fits_122, zlq, zI_add]
      by_cases c : (0 : Int64) < mr
      · rw [if_pos c]
        rw [z64lt, z64_0, hmore] at c
        exact bad (fun hh => by have := hh.1 rfl; omega)
      · rw [if_neg c]
        rw [z64lt, z64_0, hmore] at c
        exact good ⟨fun _ => by omega, fun h => by omega, fun h => by omega⟩
    · rw [e] at bad good hkind ⊢
      simp (disch := omega) only [if_true, fX12_fits_120, fX12_fits_88, fX12_fits_104, zin_zI, zn0, zn1, zn2, zI_eq_f, if_false, hkind, zI_nat, fX12_fits_122, zlq, zI_add]
      by_cases c : mr < (0 : Int64)
      · rw [if_pos c]
        rw [z64lt, z64_0, hmore] at c
        exact bad (fun hh => by have := hh.2.1 rfl; omega)
      · rw [if_neg c]
        rw [z64lt, z64_0, hmore] at c
        exact good ⟨fun h => by omega, fun _ => by omega, fun h => by omega⟩
    · rw [e] at bad good hkind ⊢
      simp (disch := omega) only [if_true, fX12_fits_120, fX12_fits_88, fX12_fits_104, zin_zI, zn0, zn1, zn2, zI_eq_f, if_false, hkind, zI_nat, fX12_fits_122, zlq, zI_add]
      by_cases c : mr = (0 : Int64)
      · rw [if_pos c]
        rw [z64eq, z64_0, hmore] at c
        exact good ⟨fun h => by omega, fun h => by omega, fun _ => c⟩
      · rw [if_neg c]
        rw [z64eq, z64_0, hmore] at c
        exact bad (fun hh => c (hh.2.2 rfl))
theorem eX12_fits {O : zSt} {L : List (zV × Nat)} {X : zV} (h : zPl O L) (hlen : L.length ≤ 16) (hb : ∀ (k : Nat) (v : zV × Nat), L[k]? = some v → zvb v.1) (hkd : ∀ (k : Nat) (v : zV × Nat), L[k]? = some v → v.2 < 3) (hS : zSol O X) (hX : (∀ n, n < 3 → zab (zco X n) 23619600) ∧ zab X.2.2.2 23619600) {many : Nat} (hm : many ≤ L.length) : ∃ y, fX12_fits O (zI many) = some y ∧ ((y = 1 ∧ zfit L many X) ∨ (y = 0 ∧ ¬ zfit L many X)) := by
  unfold fX12_fits
  rw [zn0]
  exact zfits_2 h hlen hb hkd hS hX hm many 0 6000 (by omega) (by omega) (fun r hr => by omega)
