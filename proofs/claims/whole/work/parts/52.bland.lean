/-! 52: by Bland's rule a walk comes to no basis twice, neither on the way to a point that fits (mends) nor by a goal (climbs). -/
theorem zmul_pn {a b : Int} (ha : 0 ≤ a) (hb : b ≤ 0) : a * b ≤ 0 := by
  have h := Int.mul_nonneg ha (show 0 ≤ -b by omega)
  rw [Int.mul_neg] at h
  omega
theorem zmul_np {a b : Int} (ha : a ≤ 0) (hb : 0 ≤ b) : a * b ≤ 0 := by
  rw [Int.mul_comm]
  exact zmul_pn hb ha
theorem zmul_mm {a b : Int} (ha : a ≤ 0) (hb : b ≤ 0) : 0 ≤ a * b := by
  have h := Int.mul_nonneg (show 0 ≤ -a by omega) (show 0 ≤ -b by omega)
  rwa [Int.neg_mul_neg] at h
theorem zmul_mp {a b : Int} (ha : a < 0) (hb : 0 < b) : a * b < 0 := by
  have h := Int.mul_pos (show 0 < -a by omega) hb
  rw [Int.neg_mul] at h
  omega
theorem zfle_trans {a b c d e f : Int} (h1 : a * d ≤ c * b) (h2 : c * f ≤ e * d) (hb : 0 < b) (hd : 0 < d) (hf : 0 < f) : a * f ≤ e * b := by
  have h3 := Int.mul_le_mul_of_nonneg_right h1 (Int.le_of_lt hf)
  have h4 := Int.mul_le_mul_of_nonneg_right h2 (Int.le_of_lt hb)
  have h5 : d * (a * f) ≤ d * (e * b) := by
    have e1 : d * (a * f) = a * d * f := by grind
    have e2 : c * b * f = c * f * b := by grind
    have e3 : d * (e * b) = e * d * b := by grind
    omega
  exact Int.le_of_mul_le_mul_left h5 hd
theorem zpigeon : ∀ (n : Nat) (f : Nat → Nat), (∀ i, i ≤ n → f i < n) → ∃ a b, a < b ∧ b ≤ n ∧ f a = f b
  | 0, f, h => absurd (h 0 (Nat.le_refl 0)) (by omega)
  | n + 1, f, h => by
    by_cases hx : ∃ i, i ≤ n ∧ f i = f (n + 1)
    · obtain ⟨i, h1, h2⟩ := hx
      exact ⟨i, n + 1, by omega, by omega, h2⟩
    · have hg : ∀ i, i ≤ n → (fun i => if f i = n then f (n + 1) else f i) i < n := by
        intro i hi
        show (if f i = n then f (n + 1) else f i) < n
        have h1 := h i (by omega)
        have h2 := h (n + 1) (by omega)
        have h3 : f i ≠ f (n + 1) := fun e => hx ⟨i, hi, e⟩
        split <;> omega
      obtain ⟨a, b, h1, h2, h3⟩ := zpigeon n _ hg
      refine ⟨a, b, h1, by omega, ?_⟩
      have ha : f a ≠ f (n + 1) := fun e => hx ⟨a, by omega, e⟩
      have hb : f b ≠ f (n + 1) := fun e => hx ⟨b, by omega, e⟩
      have h4 : (if f a = n then f (n + 1) else f a) = (if f b = n then f (n + 1) else f b) := h3
      split at h4 <;> split at h4 <;> omega
theorem zmaxof (P : Nat → Prop) : ∀ (B : Nat), (∀ m, P m → m < B) → (∃ m, P m) → ∃ m, P m ∧ ∀ k, P k → k ≤ m
  | 0, hB, ⟨m, hm⟩ => absurd (hB m hm) (by omega)
  | B + 1, hB, h => by
    by_cases hp : P B
    · exact ⟨B, hp, fun k hk => by have := hB k hk; omega⟩
    · refine zmaxof P B (fun m hm => ?_) h
      have := hB m hm
      have : m ≠ B := fun e => hp (e ▸ hm)
      omega
theorem zkeep (P : Nat → Prop) (T : Nat) (h : ∀ k, k < T → P k → P (k + 1)) {a : Nat} (ha : P a) : ∀ {b : Nat}, a ≤ b → b ≤ T → P b
  | 0, hab, _ => by
    have : a = 0 := by omega
    subst this
    exact ha
  | b + 1, hab, hb => by
    by_cases e : a = b + 1
    · subst e; exact ha
    · exact h b (by omega) (zkeep P T h ha (by omega) (by omega))
abbrev zT (S : Nat → zV) (o : Nat → Nat) : Nat → zV := fun j => S (o j)
/-- a side stands outside -/
def zou (o : Nat → Nat) (s : Nat) : Prop := ∃ j, j < 3 ∧ o j = s
def zrs (o : Nat → Nat) (j s : Nat) : Nat → Nat := fun k => if k = j then s else o k
theorem zT_rs (S : Nat → zV) (o : Nat → Nat) (j s : Nat) : zT S (zrs o j s) = zrp (zT S o) j (S s) := by
  funext k
  unfold zT zrs zrp
  by_cases h : k = j <;> simp [h]
def zok (S : Nat → zV) (cnt : Nat) (o : Nat → Nat) : Prop := zdtr (zT S o) ≠ 0 ∧ ∀ j, j < 3 → o j < cnt
theorem zok_inj {S : Nat → zV} {cnt : Nat} {o : Nat → Nat} (h : zok S cnt o) {i j : Nat} (hi : i < 3) (hj : j < 3) (e : o i = o j) : i = j := by
  by_cases c : i = j
  · exact c
  · exfalso
    have h1 := zc_own (t := zT S o) hi (show i < 4 by omega)
    have h2 := zc_own (t := zT S o) hj (show i < 4 by omega)
    have e2 : zT S o i = zT S o j := congrArg S e
    rw [e2, h2, if_neg c, if_pos rfl] at h1
    have := zsc_pos h.1
    omega
theorem zou_val {S : Nat → zV} {o : Nat → Nat} {m i : Nat} (h : zou o m) (hi : i < 4) (hne : ∀ j, j < 3 → o j = m → i ≠ j) : zc (zT S o) (S m) i = 0 := by
  obtain ⟨j, hj, e⟩ := h
  have h1 := zc_own (t := zT S o) hj hi
  have e2 : zT S o j = S m := congrArg S e
  rw [e2, if_neg (hne j hj e)] at h1
  exact h1
/-- in a walk that comes back, the greatest side that moves both leaves and enters; the greater ones stand still -/
theorem zfickle (O : Nat → Nat → Nat) (J Sx : Nat → Nat) (T B : Nat) (hT : 0 < T) (hJ : ∀ k, k < T → J k < 3) (hs : ∀ k, k < T → O (k + 1) = zrs (O k) (J k) (Sx k)) (hno : ∀ k, k < T → ¬ zou (O k) (Sx k)) (hinj : ∀ k, k ≤ T → ∀ i j, i < 3 → j < 3 → O k i = O k j → i = j) (hB : ∀ k, k < T → Sx k < B ∧ O k (J k) < B) (hend : ∀ j, j < 3 → O 0 j = O T j) :
    ∃ q k1 k2, k1 < T ∧ k2 < T ∧ Sx k1 = q ∧ O k2 (J k2) = q ∧ (∀ k, k < T → Sx k ≤ q ∧ O k (J k) ≤ q) ∧ ∀ m, q < m → ∀ a b, a ≤ T → b ≤ T → zou (O a) m → zou (O b) m := by
  have stay : ∀ k, k < T → ∀ m, m ≠ O k (J k) → zou (O k) m → zou (O (k + 1)) m := by
    intro k hk m hm ⟨j, hj, e⟩
    refine ⟨j, hj, ?_⟩
    rw [hs k hk]
    unfold zrs
    have : j ≠ J k := fun e2 => hm (by rw [← e2, e])
    rw [if_neg this, e]
  have back : ∀ k, k < T → ∀ m, m ≠ Sx k → ¬ zou (O k) m → ¬ zou (O (k + 1)) m := by
    intro k hk m hm hn ⟨j, hj, e⟩
    rw [hs k hk] at e
    unfold zrs at e
    by_cases c : j = J k
    · rw [if_pos c] at e; exact hm e.symm
    · rw [if_neg c] at e; exact hn ⟨j, hj, e⟩
  have gone : ∀ k, k < T → ¬ zou (O (k + 1)) (O k (J k)) := by
    intro k hk ⟨j, hj, e⟩
    rw [hs k hk] at e
    unfold zrs at e
    by_cases c : j = J k
    · rw [if_pos c] at e; exact hno k hk ⟨J k, hJ k hk, e.symm⟩
    · rw [if_neg c] at e; exact c (hinj k (by omega) j (J k) hj (hJ k hk) e)
  have come : ∀ k, k < T → zou (O (k + 1)) (Sx k) := by
    intro k hk
    refine ⟨J k, hJ k hk, ?_⟩
    rw [hs k hk]
    unfold zrs
    rw [if_pos rfl]
  have ends : ∀ m, zou (O T) m ↔ zou (O 0) m := by
    intro m
    constructor
    · rintro ⟨j, hj, e⟩; exact ⟨j, hj, by rw [hend j hj, e]⟩
    · rintro ⟨j, hj, e⟩; exact ⟨j, hj, by rw [← hend j hj, e]⟩
  obtain ⟨q, ⟨k0, hk0, hq⟩, hmax⟩ := zmaxof (fun m => ∃ k, k < T ∧ (m = Sx k ∨ m = O k (J k))) B (by
    rintro m ⟨k, hk, e | e⟩
    · rw [e]; exact (hB k hk).1
    · rw [e]; exact (hB k hk).2) ⟨Sx 0, 0, hT, Or.inl rfl⟩
  have hall : ∀ k, k < T → Sx k ≤ q ∧ O k (J k) ≤ q := fun k hk => ⟨hmax _ ⟨k, hk, Or.inl rfl⟩, hmax _ ⟨k, hk, Or.inr rfl⟩⟩
  have hconst : ∀ m, q < m → ∀ a b, a ≤ T → b ≤ T → zou (O a) m → zou (O b) m := by
    intro m hm a b ha hb h
    by_cases hab : a ≤ b
    · exact zkeep (fun k => zou (O k) m) T (fun k hk => stay k hk m (by have := (hall k hk).2; omega)) h hab hb
    · by_cases hc : zou (O b) m
      · exact hc
      · exact absurd h (zkeep (fun k => ¬ zou (O k) m) T (fun k hk => back k hk m (by have := (hall k hk).1; omega)) hc (by omega) ha)
  rcases hq with hq | hq
  · by_cases hx : ∃ k2, k2 < T ∧ O k2 (J k2) = q
    · obtain ⟨k2, h1, h2⟩ := hx
      exact ⟨q, k0, k2, hk0, h1, hq.symm, h2, hall, hconst⟩
    · exfalso
      have st : ∀ k, k < T → zou (O k) q → zou (O (k + 1)) q := fun k hk => stay k hk q (fun e => hx ⟨k, hk, e.symm⟩)
      have h1 := come k0 hk0
      rw [← hq] at h1
      have h2 := zkeep (fun k => zou (O k) q) T st h1 (show k0 + 1 ≤ T by omega) (Nat.le_refl T)
      have h3 := zkeep (fun k => zou (O k) q) T st ((ends q).mp h2) (Nat.zero_le k0) (by omega)
      rw [hq] at h3
      exact hno k0 hk0 h3
  · by_cases hx : ∃ k1, k1 < T ∧ Sx k1 = q
    · obtain ⟨k1, h1, h2⟩ := hx
      exact ⟨q, k1, k0, h1, hk0, h2, hq.symm, hall, hconst⟩
    · exfalso
      have st : ∀ k, k < T → ¬ zou (O k) q → ¬ zou (O (k + 1)) q := fun k hk => back k hk q (fun e => hx ⟨k, hk, e.symm⟩)
      have h1 := gone k0 hk0
      rw [← hq] at h1
      have h2 := zkeep (fun k => ¬ zou (O k) q) T st h1 (show k0 + 1 ≤ T by omega) (Nat.le_refl T)
      have h3 := zkeep (fun k => ¬ zou (O k) q) T st (fun h => h2 ((ends q).mpr h)) (Nat.zero_le k0) (by omega)
      exact h3 ⟨J k0, hJ k0 hk0, hq.symm⟩
/-- a step to a point that fits -/
def zmst (S : Nat → zV) (cnt : Nat) (o o2 : Nat → Nat) (j s : Nat) : Prop :=
  j < 3 ∧ s < cnt ∧ o2 = zrs o j s ∧ zc (zT S o) (S s) 3 < 0 ∧ (∀ r, r < cnt → zc (zT S o) (S r) 3 < 0 → s ≤ r) ∧ 0 < zc (zT S o) (S s) j ∧ ∀ i, i < 3 → 0 < zc (zT S o) (S s) i → o j ≤ o i
theorem zmst_no {S : Nat → zV} {cnt : Nat} {o o2 : Nat → Nat} {j s : Nat} (h : zmst S cnt o o2 j s) : ¬ zou o s := by
  intro hs
  have h1 := zou_val (S := S) hs (show 3 < 4 by omega) (fun j hj _ => by omega)
  have h2 := h.2.2.2.1
  omega
theorem zmend_no (S : Nat → zV) (cnt : Nat) (O : Nat → Nat → Nat) (J Sx : Nat → Nat) (T : Nat) (hT : 0 < T) (hok : ∀ k, k ≤ T → zok S cnt (O k)) (hst : ∀ k, k < T → zmst S cnt (O k) (O (k + 1)) (J k) (Sx k)) (hend : ∀ j, j < 3 → O 0 j = O T j) : False := by
  obtain ⟨q, k1, k2, hk1, hk2, e1, e2, -, hconst⟩ := zfickle O J Sx T cnt hT (fun k hk => (hst k hk).1) (fun k hk => (hst k hk).2.2.1) (fun k hk => zmst_no (hst k hk)) (fun k hk i j hi hj e => zok_inj (hok k hk) hi hj e) (fun k hk => ⟨(hst k hk).2.1, (hok k (by omega)).2 _ (hst k hk).1⟩) hend
  obtain ⟨-, -, -, a4, a5, -, -⟩ := hst k1 hk1
  obtain ⟨b1, b2, -, b4, -, b6, b7⟩ := hst k2 hk2
  rw [e1] at a4 a5
  rw [e2] at b7
  have hno := zmst_no (hst k2 hk2)
  have hrq : Sx k2 ≠ q := fun e => hno ⟨J k2, b1, by rw [e2, e]⟩
  have hev : ∀ m, zev (S m) (zXb (zT S (O k1))) = zc (zT S (O k1)) (S m) 3 := fun m => zXb_ev _ _
  have hcr := zc_cramer (zT S (O k2)) (S (Sx k2)) (zXb (zT S (O k1)))
  have hw : (zXb (zT S (O k1))).2.2.2 = zsc (zT S (O k1)) := rfl
  have hp1 := zsc_pos (hok k1 (by omega)).1
  have hp2 := zsc_pos (hok k2 (by omega)).1
  have nonneg : ∀ m, m < cnt → m < q → 0 ≤ zc (zT S (O k1)) (S m) 3 := by
    intro m hm hmq
    by_cases c : zc (zT S (O k1)) (S m) 3 < 0
    · have := a5 m hm c; omega
    · omega
  have term : ∀ i, i < 3 → zc (zT S (O k2)) (S (Sx k2)) i * zev (S (O k2 i)) (zXb (zT S (O k1))) ≤ 0 := by
    intro i hi
    rw [hev]
    rcases Nat.lt_trichotomy (O k2 i) q with c | c | c
    · refine zmul_np ?_ (nonneg _ ((hok k2 (by omega)).2 i hi) c)
      by_cases c2 : 0 < zc (zT S (O k2)) (S (Sx k2)) i
      · have := b7 i hi c2; omega
      · omega
    · have hij : i = J k2 := zok_inj (hok k2 (by omega)) hi b1 (by rw [c, e2])
      rw [c, hij]
      exact zmul_pn (by omega) (by omega)
    · have h1 := hconst _ c k2 k1 (by omega) (by omega) ⟨i, hi, rfl⟩
      rw [zou_val (S := S) h1 (show 3 < 4 by omega) (fun j hj _ => by omega)]
      simp
  have t0 := term 0 (by omega)
  have t1 := term 1 (by omega)
  have t2 := term 2 (by omega)
  have hr : Sx k2 < q := by
    rcases Nat.lt_trichotomy (Sx k2) q with c | c | c
    · exact c
    · exact absurd c hrq
    · exfalso
      have h1 : zou (O (k2 + 1)) (Sx k2) := ⟨J k2, b1, by rw [(hst k2 hk2).2.2.1]; simp [zrs]⟩
      exact hno (hconst _ c (k2 + 1) k2 (by omega) (by omega) h1)
  have hl := nonneg _ b2 hr
  rw [hev, hw] at hcr
  have h5 := zmul_mp b4 hp1
  have h6 := Int.mul_nonneg (Int.le_of_lt hp2) hl
  have u0 : zT S (O k2) 0 = S (O k2 0) := rfl
  have u1 : zT S (O k2) 1 = S (O k2 1) := rfl
  have u2 : zT S (O k2) 2 = S (O k2 2) := rfl
  rw [u0, u1, u2] at hcr
  omega
/-- a step by a goal -/
def zcst (S : Nat → zV) (cnt : Nat) (held : Nat → Prop) (G : zV) (o o2 : Nat → Nat) (j s : Nat) : Prop :=
  j < 3 ∧ s < cnt ∧ o2 = zrs o j s ∧ ¬ held j ∧ 0 < zc (zT S o) G j ∧ (∀ i, i < 3 → ¬ held i → 0 < zc (zT S o) G i → o j ≤ o i) ∧ zc (zT S o) (S s) j < 0 ∧ ∀ r, r < cnt → zc (zT S o) (S r) j < 0 → zc (zT S o) (S s) 3 * -(zc (zT S o) (S r) j) < zc (zT S o) (S r) 3 * -(zc (zT S o) (S s) j) ∨ (zc (zT S o) (S s) 3 * -(zc (zT S o) (S r) j) = zc (zT S o) (S r) 3 * -(zc (zT S o) (S s) j) ∧ s ≤ r)
theorem zcst_no {S : Nat → zV} {cnt : Nat} {held : Nat → Prop} {G : zV} {o o2 : Nat → Nat} {j s : Nat} (ho : zok S cnt o) (h : zcst S cnt held G o o2 j s) : ¬ zou o s := by
  rintro ⟨i, hi, e⟩
  have h1 := zc_own (t := zT S o) hi (show j < 4 by have := h.1; omega)
  have e2 : zT S o i = S s := congrArg S e
  rw [e2] at h1
  have h2 := h.2.2.2.2.2.2.1
  have := zsc_pos ho.1
  by_cases c : j = i
  · rw [if_pos c] at h1; omega
  · rw [if_neg c] at h1; omega
/-- what a step does to the constants -/
theorem zcst_c {S : Nat → zV} {cnt : Nat} {held : Nat → Prop} {G : zV} {o o2 : Nat → Nat} {j s : Nat} (h : zcst S cnt held G o o2 j s) (F : zV) : zsc (zT S o) * zc (zT S o2) F 3 = zsc (zT S o2) * zc (zT S o) F 3 + zc (zT S o) F j * zc (zT S o) (S s) 3 := by
  obtain ⟨h1, -, h3, -, -, -, h7, -⟩ := h
  have hg : (0 < zc (zT S o) (S s) j ∧ (-1 : Int) = 1) ∨ (zc (zT S o) (S s) j < 0 ∧ (-1 : Int) = -1) := Or.inr ⟨h7, rfl⟩
  rw [h3, zT_rs, ← zrp_c h1 (show 3 < 4 by omega) (by omega) (S s) F hg, (zrp_sc h1 (S s) hg).1]
  generalize zc (zT S o) (S s) j = a
  generalize zc (zT S o) F j = b
  generalize zc (zT S o) F 3 = c
  generalize zc (zT S o) (S s) 3 = d
  grind
theorem zc_end {S : Nat → zV} {o o2 : Nat → Nat} (h : ∀ j, j < 3 → o j = o2 j) : (∀ F i, zc (zT S o) F i = zc (zT S o2) F i) ∧ zsc (zT S o) = zsc (zT S o2) := by
  have h0 : zT S o 0 = zT S o2 0 := congrArg S (h 0 (by omega))
  have h1 : zT S o 1 = zT S o2 1 := congrArg S (h 1 (by omega))
  have h2 : zT S o 2 = zT S o2 2 := congrArg S (h 2 (by omega))
  have hd : zdtr (zT S o) = zdtr (zT S o2) := by unfold zdtr; rw [h0, h1, h2]
  have hs : zsg (zT S o) = zsg (zT S o2) := by unfold zsg; rw [hd]
  refine ⟨fun F i => ?_, ?_⟩
  · unfold zc zM; rw [hs, h0, h1, h2]
  · unfold zsc; rw [hs, hd]
theorem zclimb_no (S : Nat → zV) (cnt : Nat) (held : Nat → Prop) (G : zV) (O : Nat → Nat → Nat) (J Sx : Nat → Nat) (T : Nat) (hT : 0 < T) (hok : ∀ k, k ≤ T → zok S cnt (O k)) (hfe : ∀ k, k ≤ T → ∀ r, r < cnt → 0 ≤ zc (zT S (O k)) (S r) 3) (hst : ∀ k, k < T → zcst S cnt held G (O k) (O (k + 1)) (J k) (Sx k)) (hend : ∀ j, j < 3 → O 0 j = O T j) : False := by
  obtain ⟨q, k1, k2, hk1, hk2, e1, e2, hall, hconst⟩ := zfickle O J Sx T cnt hT (fun k hk => (hst k hk).1) (fun k hk => (hst k hk).2.2.1) (fun k hk => zcst_no (hok k (by omega)) (hst k hk)) (fun k hk i j hi hj e => zok_inj (hok k hk) hi hj e) (fun k hk => ⟨(hst k hk).2.1, (hok k (by omega)).2 _ (hst k hk).1⟩) hend
  have hp : ∀ k, k ≤ T → 0 < zsc (zT S (O k)) := fun k hk => zsc_pos (hok k hk).1
  -- the value doesn't fall
  have up : ∀ k, k < T → zc (zT S (O k)) G 3 * zsc (zT S (O (k + 1))) ≤ zc (zT S (O (k + 1))) G 3 * zsc (zT S (O k)) := by
    intro k hk
    have h1 := zcst_c (hst k hk) G
    have h2 := Int.mul_nonneg (Int.le_of_lt (hst k hk).2.2.2.2.1) (hfe k (by omega) _ (hst k hk).2.1)
    rw [Int.mul_comm (zc (zT S (O k)) G 3), Int.mul_comm (zc (zT S (O (k + 1))) G 3)]
    omega
  have chain : ∀ a b, a ≤ b → b ≤ T → zc (zT S (O a)) G 3 * zsc (zT S (O b)) ≤ zc (zT S (O b)) G 3 * zsc (zT S (O a)) := by
    intro a b hab hb
    refine zkeep (fun b => b ≤ T → zc (zT S (O a)) G 3 * zsc (zT S (O b)) ≤ zc (zT S (O b)) G 3 * zsc (zT S (O a))) T ?_ (fun _ => Int.le_refl _) hab hb hb
    intro k hk h hk2
    exact zfle_trans (h (by omega)) (up k hk) (hp a (by omega)) (hp k (by omega)) (hp (k + 1) (by omega))
  have hE := zc_end (S := S) hend
  have deg : ∀ k, k < T → zc (zT S (O k)) (S (Sx k)) 3 = 0 := by
    intro k hk
    have c1 := chain (k + 1) T (by omega) (Nat.le_refl T)
    have c2 := chain 0 k (by omega) (by omega)
    rw [← hE.1, ← hE.2] at c1
    have c3 := zfle_trans c1 c2 (hp (k + 1) (by omega)) (hp 0 (by omega)) (hp k (by omega))
    have h1 := zcst_c (hst k hk) G
    have h3 := hfe k (by omega) _ (hst k hk).2.1
    have h4 := (hst k hk).2.2.2.2.1
    by_cases c : zc (zT S (O k)) (S (Sx k)) 3 = 0
    · exact c
    · have h5 := Int.mul_pos h4 (show 0 < zc (zT S (O k)) (S (Sx k)) 3 by omega)
      rw [Int.mul_comm (zc (zT S (O (k + 1))) G 3), Int.mul_comm (zc (zT S (O k)) G 3)] at c3
      omega
  have same : ∀ k, k < T → ∀ F, zsc (zT S (O k)) * zc (zT S (O (k + 1))) F 3 = zsc (zT S (O (k + 1))) * zc (zT S (O k)) F 3 := by
    intro k hk F
    rw [zcst_c (hst k hk) F, deg k hk]
    simp
  have fw : ∀ F, ∀ k, k < T → zc (zT S (O k)) F 3 = 0 → zc (zT S (O (k + 1))) F 3 = 0 := by
    intro F k hk h
    have h1 := same k hk F
    rw [h, Int.mul_zero] at h1
    rcases Int.mul_eq_zero.mp h1 with h2 | h2
    · have := hp k (by omega); omega
    · exact h2
  have bw : ∀ F, ∀ k, k < T → zc (zT S (O k)) F 3 ≠ 0 → zc (zT S (O (k + 1))) F 3 ≠ 0 := by
    intro F k hk h h0
    have h1 := same k hk F
    rw [h0, Int.mul_zero] at h1
    rcases Int.mul_eq_zero.mp h1.symm with h2 | h2
    · have := hp (k + 1) (by omega); omega
    · exact h h2
  have zero : ∀ F a b, a ≤ T → b ≤ T → zc (zT S (O a)) F 3 = 0 → zc (zT S (O b)) F 3 = 0 := by
    intro F a b ha hb h
    by_cases hab : a ≤ b
    · exact zkeep (fun k => zc (zT S (O k)) F 3 = 0) T (fw F) h hab hb
    · by_cases hc : zc (zT S (O b)) F 3 = 0
      · exact hc
      · exact absurd h (zkeep (fun k => zc (zT S (O k)) F 3 ≠ 0) T (bw F) hc (by omega) ha)
  have heldc : ∀ i, held i → ∀ k, k ≤ T → O k i = O 0 i := by
    intro i hi k hk
    refine zkeep (fun k => O k i = O 0 i) T ?_ rfl (Nat.zero_le k) hk
    intro k hk h
    rw [(hst k hk).2.2.1]
    unfold zrs
    have : i ≠ J k := fun e => (hst k hk).2.2.2.1 (e ▸ hi)
    rw [if_neg this, h]
  obtain ⟨a1, -, -, a4, a5, -, a7, a8⟩ := hst k1 hk1
  obtain ⟨b1, -, -, b4, b5, b6, -, -⟩ := hst k2 hk2
  rw [e1] at a7 a8
  rw [e2] at b6
  have hno := zcst_no (hok k1 (by omega)) (hst k1 hk1)
  rw [e1] at hno
  have heq : O k1 (J k1) < q := by
    have h1 := (hall k1 hk1).2
    have h2 : O k1 (J k1) ≠ q := fun e => hno ⟨J k1, a1, e⟩
    omega
  have d1 := deg k1 hk1
  rw [e1] at d1
  have hev : ∀ F, zev F (zXd (zT S (O k1)) (J k1)) = zc (zT S (O k1)) F (J k1) := fun F => zXd_ev _ _ a1
  have hcr := zc_cramer (zT S (O k2)) G (zXd (zT S (O k1)) (J k1))
  have hw : (zXd (zT S (O k1)) (J k1)).2.2.2 = 0 := rfl
  have term : ∀ i, i < 3 → zc (zT S (O k2)) G i * zev (S (O k2 i)) (zXd (zT S (O k1)) (J k1)) ≤ 0 := by
    intro i hi
    rw [hev]
    by_cases hh : held i
    · have e3 : O k2 i = O k1 i := by rw [heldc i hh k2 (by omega), heldc i hh k1 (by omega)]
      have h1 := zc_own (t := zT S (O k1)) hi (show J k1 < 4 by omega)
      have hne : J k1 ≠ i := fun e => a4 (e ▸ hh)
      rw [if_neg hne] at h1
      rw [e3]
      have h2 : zc (zT S (O k1)) (S (O k1 i)) (J k1) = 0 := h1
      rw [h2]
      simp
    · rcases Nat.lt_trichotomy (O k2 i) q with c | c | c
      · have hg : zc (zT S (O k2)) G i ≤ 0 := by
          by_cases c2 : 0 < zc (zT S (O k2)) G i
          · have := b6 i hi hh c2; omega
          · omega
        by_cases hm : zc (zT S (O k1)) (S (O k2 i)) (J k1) < 0
        · exfalso
          have z2 := zou_val (S := S) (o := O k2) (m := O k2 i) ⟨i, hi, rfl⟩ (show 3 < 4 by omega) (fun j hj _ => by omega)
          have z1 := zero _ k2 k1 (by omega) (by omega) z2
          rcases a8 _ ((hok k2 (by omega)).2 i hi) hm with h | ⟨-, h⟩
          · rw [z1, d1] at h
            simp at h
          · omega
        · exact zmul_np hg (by omega)
      · have hij : i = J k2 := zok_inj (hok k2 (by omega)) hi b1 (by rw [c, e2])
        rw [c, hij]
        exact zmul_pn (by omega) (by omega)
      · have h1 := hconst _ c k2 k1 (by omega) (by omega) ⟨i, hi, rfl⟩
        rw [zou_val (S := S) h1 (show J k1 < 4 by omega) (fun j hj e => by rintro rfl; omega)]
        simp
  have t0 := term 0 (by omega)
  have t1 := term 1 (by omega)
  have t2 := term 2 (by omega)
  have u0 : zT S (O k2) 0 = S (O k2 0) := rfl
  have u1 : zT S (O k2) 1 = S (O k2 1) := rfl
  have u2 : zT S (O k2) 2 = S (O k2 2) := rfl
  rw [u0, u1, u2, hev, hw, Int.mul_zero] at hcr
  have h5 := Int.mul_pos (hp k2 (by omega)) a5
  omega
