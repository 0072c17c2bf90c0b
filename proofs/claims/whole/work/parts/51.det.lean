/-! 51: sides and goals as functionals over Z^4 (three variables and the denominator), minors, Cramer and Pluecker. -/
abbrev zV : Type := Int × Int × Int × Int
def zev (F X : zV) : Int := F.1 * X.1 + F.2.1 * X.2.1 + F.2.2.1 * X.2.2.1 + F.2.2.2 * X.2.2.2
def zd3 (u v w : zV) : Int := u.1 * (v.2.1 * w.2.2.1 - v.2.2.1 * w.2.1) - u.2.1 * (v.1 * w.2.2.1 - v.2.2.1 * w.1) + u.2.2.1 * (v.1 * w.2.1 - v.2.1 * w.1)
def zd4 (u v w f : zV) : Int := f.2.2.2 * zd3 u v w - w.2.2.2 * zd3 u v f + v.2.2.2 * zd3 u w f - u.2.2.2 * zd3 v w f
/-- the four minors: a row of the basis replaced by F; the constant one -/
def zN (u v w F : zV) : Nat → Int
  | 0 => zd3 F v w
  | 1 => zd3 u F w
  | 2 => zd3 u v F
  | _ => zd4 u v w F
theorem zN_cramer (u v w F X : zV) : zd3 u v w * zev F X = zN u v w F 0 * zev u X + zN u v w F 1 * zev v X + zN u v w F 2 * zev w X + zN u v w F 3 * X.2.2.2 := by
  obtain ⟨u0, u1, u2, u3⟩ := u
  obtain ⟨v0, v1, v2, v3⟩ := v
  obtain ⟨w0, w1, w2, w3⟩ := w
  obtain ⟨f0, f1, f2, f3⟩ := F
  obtain ⟨x0, x1, x2, x3⟩ := X
  simp only [zN, zd4, zd3, zev]
  grind
theorem zP01 (u v w S F : zV) : zN u v w S 0 * zN u v w F 1 - zN u v w F 0 * zN u v w S 1 = zd3 u v w * zN S v w F 1 := by
  obtain ⟨u0, u1, u2, u3⟩ := u
  obtain ⟨v0, v1, v2, v3⟩ := v
  obtain ⟨w0, w1, w2, w3⟩ := w
  obtain ⟨f0, f1, f2, f3⟩ := F
  obtain ⟨s0, s1, s2, s3⟩ := S
  simp only [zN, zd4, zd3]
  grind
theorem zP03 (u v w S F : zV) : zN u v w S 0 * zN u v w F 3 - zN u v w F 0 * zN u v w S 3 = zd3 u v w * zN S v w F 3 := by
  obtain ⟨u0, u1, u2, u3⟩ := u
  obtain ⟨v0, v1, v2, v3⟩ := v
  obtain ⟨w0, w1, w2, w3⟩ := w
  obtain ⟨f0, f1, f2, f3⟩ := F
  obtain ⟨s0, s1, s2, s3⟩ := S
  simp only [zN, zd4, zd3]
  grind
theorem zP02 (u v w S F : zV) : zN u v w S 0 * zN u v w F 2 - zN u v w F 0 * zN u v w S 2 = zd3 u v w * zN S v w F 2 := by
  obtain ⟨u0, u1, u2, u3⟩ := u
  obtain ⟨v0, v1, v2, v3⟩ := v
  obtain ⟨w0, w1, w2, w3⟩ := w
  obtain ⟨f0, f1, f2, f3⟩ := F
  obtain ⟨s0, s1, s2, s3⟩ := S
  simp only [zN, zd4, zd3]
  grind
theorem zP10 (u v w S F : zV) : zN u v w S 1 * zN u v w F 0 - zN u v w F 1 * zN u v w S 0 = zd3 u v w * zN u S w F 0 := by
  obtain ⟨u0, u1, u2, u3⟩ := u
  obtain ⟨v0, v1, v2, v3⟩ := v
  obtain ⟨w0, w1, w2, w3⟩ := w
  obtain ⟨f0, f1, f2, f3⟩ := F
  obtain ⟨s0, s1, s2, s3⟩ := S
  simp only [zN, zd4, zd3]
  grind
theorem zP12 (u v w S F : zV) : zN u v w S 1 * zN u v w F 2 - zN u v w F 1 * zN u v w S 2 = zd3 u v w * zN u S w F 2 := by
  obtain ⟨u0, u1, u2, u3⟩ := u
  obtain ⟨v0, v1, v2, v3⟩ := v
  obtain ⟨w0, w1, w2, w3⟩ := w
  obtain ⟨f0, f1, f2, f3⟩ := F
  obtain ⟨s0, s1, s2, s3⟩ := S
  simp only [zN, zd4, zd3]
  grind
theorem zP13 (u v w S F : zV) : zN u v w S 1 * zN u v w F 3 - zN u v w F 1 * zN u v w S 3 = zd3 u v w * zN u S w F 3 := by
  obtain ⟨u0, u1, u2, u3⟩ := u
  obtain ⟨v0, v1, v2, v3⟩ := v
  obtain ⟨w0, w1, w2, w3⟩ := w
  obtain ⟨f0, f1, f2, f3⟩ := F
  obtain ⟨s0, s1, s2, s3⟩ := S
  simp only [zN, zd4, zd3]
  grind
theorem zP20 (u v w S F : zV) : zN u v w S 2 * zN u v w F 0 - zN u v w F 2 * zN u v w S 0 = zd3 u v w * zN u v S F 0 := by
  obtain ⟨u0, u1, u2, u3⟩ := u
  obtain ⟨v0, v1, v2, v3⟩ := v
  obtain ⟨w0, w1, w2, w3⟩ := w
  obtain ⟨f0, f1, f2, f3⟩ := F
  obtain ⟨s0, s1, s2, s3⟩ := S
  simp only [zN, zd4, zd3]
  grind
theorem zP21 (u v w S F : zV) : zN u v w S 2 * zN u v w F 1 - zN u v w F 2 * zN u v w S 1 = zd3 u v w * zN u v S F 1 := by
  obtain ⟨u0, u1, u2, u3⟩ := u
  obtain ⟨v0, v1, v2, v3⟩ := v
  obtain ⟨w0, w1, w2, w3⟩ := w
  obtain ⟨f0, f1, f2, f3⟩ := F
  obtain ⟨s0, s1, s2, s3⟩ := S
  simp only [zN, zd4, zd3]
  grind
theorem zP23 (u v w S F : zV) : zN u v w S 2 * zN u v w F 3 - zN u v w F 2 * zN u v w S 3 = zd3 u v w * zN u v S F 3 := by
  obtain ⟨u0, u1, u2, u3⟩ := u
  obtain ⟨v0, v1, v2, v3⟩ := v
  obtain ⟨w0, w1, w2, w3⟩ := w
  obtain ⟨f0, f1, f2, f3⟩ := F
  obtain ⟨s0, s1, s2, s3⟩ := S
  simp only [zN, zd4, zd3]
  grind
/-- three rows of a basis; a row replaced -/
def zrp (t : Nat → zV) (j : Nat) (s : zV) : Nat → zV := fun k => if k = j then s else t k
def zdtr (t : Nat → zV) : Int := zd3 (t 0) (t 1) (t 2)
def zM (t : Nat → zV) (F : zV) (j : Nat) : Int := zN (t 0) (t 1) (t 2) F j
theorem zlt3 {j : Nat} (h : j < 3) : j = 0 ∨ j = 1 ∨ j = 2 := by omega
theorem zlt4 {j : Nat} (h : j < 4) : j = 0 ∨ j = 1 ∨ j = 2 ∨ j = 3 := by omega
theorem zrp_dt (t : Nat → zV) {j : Nat} (hj : j < 3) (s : zV) : zdtr (zrp t j s) = zM t s j := by
  rcases zlt3 hj with rfl | rfl | rfl <;> simp [zdtr, zrp, zM, zN]
theorem zrp_P (t : Nat → zV) {j i : Nat} (hj : j < 3) (hi : i < 4) (hij : i ≠ j) (s F : zV) : zM t s j * zM t F i - zM t F j * zM t s i = zdtr t * zM (zrp t j s) F i := by
  rcases zlt3 hj with rfl | rfl | rfl <;> rcases zlt4 hi with rfl | rfl | rfl | rfl
  · exact absurd rfl hij
  · simpa [zdtr, zrp, zM] using zP01 (t 0) (t 1) (t 2) s F
  · simpa [zdtr, zrp, zM] using zP02 (t 0) (t 1) (t 2) s F
  · simpa [zdtr, zrp, zM] using zP03 (t 0) (t 1) (t 2) s F
  · simpa [zdtr, zrp, zM] using zP10 (t 0) (t 1) (t 2) s F
  · exact absurd rfl hij
  · simpa [zdtr, zrp, zM] using zP12 (t 0) (t 1) (t 2) s F
  · simpa [zdtr, zrp, zM] using zP13 (t 0) (t 1) (t 2) s F
  · simpa [zdtr, zrp, zM] using zP20 (t 0) (t 1) (t 2) s F
  · simpa [zdtr, zrp, zM] using zP21 (t 0) (t 1) (t 2) s F
  · exact absurd rfl hij
  · simpa [zdtr, zrp, zM] using zP23 (t 0) (t 1) (t 2) s F
theorem zrp_Q (t : Nat → zV) {j : Nat} (hj : j < 3) (s F : zV) : zM (zrp t j s) F j = zM t F j := by
  rcases zlt3 hj with rfl | rfl | rfl <;> simp [zrp, zM, zN]
theorem zM_own (t : Nat → zV) {j i : Nat} (hj : j < 3) (hi : i < 4) : zM t (t j) i = if i = j then zdtr t else 0 := by
  generalize h0 : t 0 = a
  generalize h1 : t 1 = b
  generalize h2 : t 2 = c
  obtain ⟨a0, a1, a2, a3⟩ := a
  obtain ⟨b0, b1, b2, b3⟩ := b
  obtain ⟨c0, c1, c2, c3⟩ := c
  rcases zlt3 hj with rfl | rfl | rfl <;> rcases zlt4 hi with rfl | rfl | rfl | rfl <;> simp only [zM, zdtr, zN, h0, h1, h2, zd4, zd3] <;> grind
/-- the sign, the scale and the cells of a basis -/
def zsg (t : Nat → zV) : Int := if zdtr t < 0 then -1 else 1
def zsc (t : Nat → zV) : Int := zsg t * zdtr t
def zc (t : Nat → zV) (F : zV) (j : Nat) : Int := zsg t * zM t F j
theorem zsg_or (t : Nat → zV) : (zdtr t < 0 ∧ zsg t = -1) ∨ (0 ≤ zdtr t ∧ zsg t = 1) := by
  unfold zsg
  by_cases h : zdtr t < 0
  · left; exact ⟨h, by rw [if_pos h]⟩
  · right; exact ⟨by omega, by rw [if_neg h]⟩
theorem zsc_pos {t : Nat → zV} (h : zdtr t ≠ 0) : 0 < zsc t := by
  unfold zsc
  rcases zsg_or t with ⟨h1, h2⟩ | ⟨h1, h2⟩ <;> rw [h2] <;> omega
theorem zsc_ne {t : Nat → zV} (h : 0 < zsc t) : zdtr t ≠ 0 := by
  intro e
  unfold zsc at h
  rw [e] at h
  simp at h
theorem zc_own {t : Nat → zV} {j i : Nat} (hj : j < 3) (hi : i < 4) : zc t (t j) i = if i = j then zsc t else 0 := by
  unfold zc zsc
  rw [zM_own t hj hi]
  by_cases h : i = j <;> simp [h]
theorem zc_cramer (t : Nat → zV) (F X : zV) : zsc t * zev F X = zc t F 0 * zev (t 0) X + zc t F 1 * zev (t 1) X + zc t F 2 * zev (t 2) X + zc t F 3 * X.2.2.2 := by
  have h := zN_cramer (t 0) (t 1) (t 2) F X
  unfold zsc zc zM zdtr
  rw [Int.mul_assoc, h]
  simp only [Int.mul_add, Int.mul_assoc]
/-- the basic solution and the directions -/
def zE (i : Nat) : zV := (if i = 0 then 1 else 0, if i = 1 then 1 else 0, if i = 2 then 1 else 0, 0)
def zXb (t : Nat → zV) : zV := (zc t (zE 0) 3, zc t (zE 1) 3, zc t (zE 2) 3, zsc t)
def zXd (t : Nat → zV) (j : Nat) : zV := (zc t (zE 0) j, zc t (zE 1) j, zc t (zE 2) j, 0)
theorem zXb_ev (t : Nat → zV) (F : zV) : zev F (zXb t) = zc t F 3 := by
  unfold zXb zc zsc
  generalize zsg t = g
  unfold zM zdtr
  generalize t 0 = a
  generalize t 1 = b
  generalize t 2 = c
  obtain ⟨a0, a1, a2, a3⟩ := a
  obtain ⟨b0, b1, b2, b3⟩ := b
  obtain ⟨c0, c1, c2, c3⟩ := c
  obtain ⟨f0, f1, f2, f3⟩ := F
  simp only [zE, zN, zd4, zd3, zev]
  grind
theorem zXd_ev (t : Nat → zV) (F : zV) {j : Nat} (hj : j < 3) : zev F (zXd t j) = zc t F j := by
  unfold zXd zc
  generalize zsg t = g
  unfold zM
  generalize t 0 = a
  generalize t 1 = b
  generalize t 2 = c
  obtain ⟨a0, a1, a2, a3⟩ := a
  obtain ⟨b0, b1, b2, b3⟩ := b
  obtain ⟨c0, c1, c2, c3⟩ := c
  obtain ⟨f0, f1, f2, f3⟩ := F
  rcases zlt3 hj with rfl | rfl | rfl <;> simp only [zE, zN, zd4, zd3, zev] <;> grind
/-- a swap: pivot p, its sign s -/
theorem zrp_sc {t : Nat → zV} {j : Nat} (hj : j < 3) (s : zV) {g : Int} (hg : (0 < zc t s j ∧ g = 1) ∨ (zc t s j < 0 ∧ g = -1)) : zsc (zrp t j s) = g * zc t s j ∧ zsg (zrp t j s) = g * zsg t := by
  unfold zsc zc zsg at *
  rw [zrp_dt t hj s]
  generalize zM t s j = m at *
  generalize zdtr t = d at *
  rcases hg with ⟨h1, rfl⟩ | ⟨h1, rfl⟩ <;> by_cases hd : d < 0 <;> simp only [hd, if_true, if_false] at * <;> by_cases hm : m < 0 <;> simp only [hm, if_true, if_false] <;> omega
theorem zrp_c {t : Nat → zV} {j i : Nat} (hj : j < 3) (hi : i < 4) (hij : i ≠ j) (s F : zV) {g : Int} (hg : (0 < zc t s j ∧ g = 1) ∨ (zc t s j < 0 ∧ g = -1)) : g * (zc t s j * zc t F i - zc t F j * zc t s i) = zsc t * zc (zrp t j s) F i := by
  have h := zrp_P t hj hi hij s F
  have h2 := (zrp_sc hj s hg).2
  have h3 : zsg t * zsg t = 1 := by rcases zsg_or t with ⟨-, h2⟩ | ⟨-, h2⟩ <;> rw [h2] <;> rfl
  unfold zsc zc
  rw [h2]
  generalize zM t s j = a at *
  generalize zM t F i = b at *
  generalize zM t F j = c at *
  generalize zM t s i = d at *
  generalize zM (zrp t j s) F i = e at *
  generalize zdtr t = f at *
  generalize zsg t = k at *
  grind
theorem zrp_cj {t : Nat → zV} {j : Nat} (hj : j < 3) (s F : zV) {g : Int} (hg : (0 < zc t s j ∧ g = 1) ∨ (zc t s j < 0 ∧ g = -1)) : zc (zrp t j s) F j = g * zc t F j := by
  unfold zc
  have h2 := (zrp_sc hj s hg).2
  rw [h2, zrp_Q t hj s F, Int.mul_assoc]
/-- the row of the pivot, that of the side that was outside -/
theorem zrp_own {t : Nat → zV} {j i : Nat} (hj : j < 3) (hi : i < 4) (ht : zdtr t ≠ 0) (s : zV) {g : Int} (hg : (0 < zc t s j ∧ g = 1) ∨ (zc t s j < 0 ∧ g = -1)) : zc (zrp t j s) (t j) i = if i = j then g * zsc t else -g * zc t s i := by
  by_cases hij : i = j
  · subst hij
    rw [zrp_cj hj s (t i) hg, zc_own hj hi]
    simp
  · have h := zrp_c hj hi hij s (t j) hg
    rw [zc_own hj hi, zc_own hj (by omega), if_neg hij, if_pos rfl] at h
    rw [if_neg hij]
    have hp := zsc_pos ht
    apply Int.eq_of_mul_eq_mul_left (Int.ne_of_gt hp)
    rw [← h]
    generalize zsc t = a
    generalize zc t s i = b
    generalize zc t s j = c
    grind
theorem zrp_ne {t : Nat → zV} {j : Nat} (hj : j < 3) (s : zV) (h : zc t s j ≠ 0) : zdtr (zrp t j s) ≠ 0 := by
  rw [zrp_dt t hj s]
  intro e
  apply h
  unfold zc
  rw [e]
  simp
/-- bounds -/
def zvb (F : zV) : Prop := zab F.1 9 ∧ zab F.2.1 9 ∧ zab F.2.2.1 9 ∧ zab F.2.2.2 1350
theorem zd3_b {u v w : zV} (hu : zvb u) (hv : zvb v) (hw : zvb w) : zab (zd3 u v w) 4374 := by
  obtain ⟨u0, u1, u2, -⟩ := hu
  obtain ⟨v0, v1, v2, -⟩ := hv
  obtain ⟨w0, w1, w2, -⟩ := hw
  unfold zd3
  exact zab_add (zab_sub (zab_mul u0 (zab_sub (zab_mul v1 w2) (zab_mul v2 w1))) (zab_mul u1 (zab_sub (zab_mul v0 w2) (zab_mul v2 w0)))) (zab_mul u2 (zab_sub (zab_mul v0 w1) (zab_mul v1 w0)))
theorem zd4_b {u v w f : zV} (hu : zvb u) (hv : zvb v) (hw : zvb w) (hf : zvb f) : zab (zd4 u v w f) 23619600 := by
  unfold zd4
  exact zab_sub (zab_add (zab_sub (zab_mul hf.2.2.2 (zd3_b hu hv hw)) (zab_mul hw.2.2.2 (zd3_b hu hv hf))) (zab_mul hv.2.2.2 (zd3_b hu hw hf))) (zab_mul hu.2.2.2 (zd3_b hv hw hf))
theorem zsg_b {t : Nat → zV} {a : Int} {A : Nat} (h : zab a A) : zab (zsg t * a) A := by
  rcases zsg_or t with ⟨-, h2⟩ | ⟨-, h2⟩ <;> rw [h2] <;> unfold zab at * <;> omega
theorem zc_b {t : Nat → zV} (h0 : zvb (t 0)) (h1 : zvb (t 1)) (h2 : zvb (t 2)) {F : zV} (hF : zvb F) {j : Nat} (hj : j < 3) : zab (zc t F j) 4374 := by
  unfold zc
  apply zsg_b
  rcases zlt3 hj with rfl | rfl | rfl
  · exact zd3_b hF h1 h2
  · exact zd3_b h0 hF h2
  · exact zd3_b h0 h1 hF
theorem zc_b3 {t : Nat → zV} (h0 : zvb (t 0)) (h1 : zvb (t 1)) (h2 : zvb (t 2)) {F : zV} (hF : zvb F) : zab (zc t F 3) 23619600 := zsg_b (zd4_b h0 h1 h2 hF)
theorem zsc_b {t : Nat → zV} (h0 : zvb (t 0)) (h1 : zvb (t 1)) (h2 : zvb (t 2)) : zab (zsc t) 4374 := zsg_b (zd3_b h0 h1 h2)
