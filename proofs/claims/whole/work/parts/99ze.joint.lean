/-! 9ze: the joint state of both sides, and what every call makes of it. -/
def zJ0 (n m q len : Nat) (K P X W sS D Q B Z E H q0 q1 q2 q3 O : zSt) : Prop :=
  zPw n m q P ∧ zRl n m q P O ∧ zTy n len X O ∧ zJc n m q K P W sS D Q B Z E H ∧ zSnap 0 q0 O ∧ zSnap 1 q1 O ∧ zSnap 2 q2 O ∧ zSnap 3 q3 O
/-- the states by the places of their groups in the law's world -/
def zJx (K P X W sS D Q B Z E H q0 q1 q2 q3 O : zSt) : Prop := ∃ n m q len, zJ0 n m q len K P X W sS D Q B Z E H q0 q1 q2 q3 O
def zJ (σ : Nat → zSt) : Prop := zJx (σ 13) (σ 1) (σ 2) (σ 4) (σ 5) (σ 6) (σ 7) (σ 14) (σ 16) (σ 17) (σ 18) (σ 20) (σ 21) (σ 22) (σ 23) (σ 24)
section ZJOINT
variable {n m q len : Nat} {K P X W sS D Q B Z E H q0 q1 q2 q3 O : zSt}
/-- a call that computes -/
theorem zJ0_c {K2 W2 s2 D2 Q2 B2 Z2 E2 H2 O2 : zSt} (h : zJ0 n m q len K P X W sS D Q B Z E H q0 q1 q2 q3 O) (f : zFc O O2) (j : zJc n m q K2 P W2 s2 D2 Q2 B2 Z2 E2 H2) : zJ0 n m q len K2 P X W2 s2 D2 Q2 B2 Z2 E2 H2 q0 q1 q2 q3 O2 := by
  obtain ⟨a, b, c, -, e0, e1, e2, e3⟩ := h
  exact ⟨a, zRl_c b f, zTy_c c f, j, zSnap_c e0 f, zSnap_c e1 f, zSnap_c e2 f, zSnap_c e3 f⟩
theorem zSnap_r {j : Nat} {M O O2 : zSt} (h : zSnap j M O) (f : zFr O O2) : zSnap j M O2 := zSnap_f h (f.2.2.1 39 (by omega)) (f.2.2.2 38) (f.2.2.2 37)
theorem zJc_fg {n2 m2 q2 : Nat} {P2 : zSt} (h : zJc n m q K P W sS D Q B Z E H) : zJc n2 m2 q2 (zsi K 5 0) P2 (zsi W 9 0) sS D Q B (zsi Z 4 0) E H :=
  ⟨fun c => absurd gi_si c, fun c => absurd gi_si c, fun c => absurd gi_si c, h.2.2.2⟩
/-- a call that may change the program -/
theorem zJ0_k {W2 K2 Z2 P2 X2 O2 : zSt} (h : zJ0 n m q len K P X W sS D Q B Z E H q0 q1 q2 q3 O) (k : zKeep n m q (W, K, Z) P (W2, K2, Z2) P2 X2 O O2) : zJx K2 P2 X2 W2 sS D Q B Z2 E H q0 q1 q2 q3 O2 := by
  obtain ⟨-, -, -, d, e0, e1, e2, e3⟩ := h
  obtain ⟨n2, m2, q2, len2, k1, k2, k3, k4, k5⟩ := k
  refine ⟨n2, m2, q2, len2, k1, k2, k3, ?_, zSnap_r e0 k4, zSnap_r e1 k4, zSnap_r e2 k4, zSnap_r e3 k4⟩
  rcases k5 with ⟨rfl, rfl, rfl, rfl, e⟩ | e
  · injection e with e1 e
    injection e with e2 e3
    rw [e1, e2, e3]
    exact d
  · have e : (W2, K2, Z2) = (zsi W 9 0, zsi K 5 0, zsi Z 4 0) := e
    injection e with e1 e
    injection e with e2 e3
    rw [e1, e2, e3]
    exact zJc_fg d
/-- a call of the text alone -/
theorem zJ0_t {X2 O2 : zSt} (h : zJ0 n m q len K P X W sS D Q B Z E H q0 q1 q2 q3 O) (k : zTexts n m q P X2 O O2) : ∃ len2, zJ0 n m q len2 K P X2 W sS D Q B Z E H q0 q1 q2 q3 O2 := by
  obtain ⟨a, -, -, d, e0, e1, e2, e3⟩ := h
  obtain ⟨len2, k2, k3, k4⟩ := k
  exact ⟨len2, a, k2, k3, d, zSnap_r e0 k4, zSnap_r e1 k4, zSnap_r e2 k4, zSnap_r e3 k4⟩
end ZJOINT
/-- the start -/
theorem zJ_new : zJ0 0 0 0 0 zs0X0 zs0X5 zs0X8 zs0X9 zs0X7 zs0X1 zs0X4 zs0X4 zs0X10 zs0X4 zs0X4 zs0X4 zs0X4 zs0X4 zs0X4 zs0X12 := by
  have z0 : ∀ k j, zga zs0X5 k j = 0 := fun _ _ => rfl
  have hP : zPw 0 0 0 zs0X5 := by
    refine ⟨by omega, by omega, by omega, rfl, rfl, rfl, ⟨rfl, by decide⟩, fun i hi => ?_, fun i hi _ => ⟨rfl, rfl⟩, fun r hr => by omega, fun a ha => by omega, fun r _ _ => rfl⟩
    rw [z0, z0]
    decide
  have hR : zRl 0 0 0 zs0X5 zs0X12 := by
    refine ⟨rfl, rfl, rfl, fun i hi => ⟨rfl, rfl⟩, fun r hr => by omega, fun a ha => by omega, fun r _ _ => rfl⟩
  have hs : ∀ k, k < 4 → zSnap k zs0X4 zs0X12 := by
    intro k hk
    refine Or.inl ⟨rfl, ?_⟩
    have : k = 0 ∨ k = 1 ∨ k = 2 ∨ k = 3 := by omega
    rcases this with rfl | rfl | rfl | rfl <;> rfl
  exact ⟨hP, hR, zTy_0 (by omega) rfl rfl rfl, ⟨fun c => absurd rfl c, fun c => absurd rfl c, fun c => absurd rfl c, by decide⟩, hs 0 (by omega), hs 1 (by omega), hs 2 (by omega), hs 3 (by omega)⟩
