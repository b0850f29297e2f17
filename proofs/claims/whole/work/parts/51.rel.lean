/-! the relation of the class's cells to the reference's -/
/-- from a number the plants may all be ripe in some days -/
def mj_can (m : Nat) (B : mj_I) : Nat → Int32 → Prop
  | 0, v => v / 6 = 342
  | d + 1, v => mj_can m B d v ∨ ∃ t : Nat, t < m ∧ ¬ s_X6_mayGo (v - v / 6 * 6) (nI t) B = 0 ∧ mj_can m B d (mj6_B v (nI t) B)
/-- the table of days to go is right -/
def mj_TO (m : Nat) (B : mj_I) : Prop := ∀ v, mj_in v 2058 → ¬ s_X6_isState v B = 0 → (B 57 v = -9 ∧ ¬ mj_can m B 23 v) ∨ ∃ d : Nat, d ≤ 23 ∧ B 57 v = nI d ∧ mj_can m B d v ∧ ∀ e, e < d → ¬ mj_can m B e v
/-- corners as sets: told twice, none with itself -/
def mj_CO (m : Nat) (C : Int32 → Int32) : Prop := ∃ q : Nat → Nat, (∀ a, a < m → C (nI a) = nI (q a) ∧ q a < 2 ^ m) ∧ (∀ a, a < m → ∀ b, b < m → (q a).testBit b = (q b).testBit a) ∧ ∀ a, a < m → (q a).testBit a = false
def mj_rS (cc m p R : Nat) (A B : mj_I) : Prop := (A cc 0 = nI m ∧ B 42 5 = nI m) ∧ (A cc 1 = nI p ∧ B 42 6 = nI p) ∧ (A 1 11 = nI R ∧ B 42 25 = nI R)
def mj_rT (A B : mj_I) : Prop := B 42 1 = A 1 12 ∧ B 42 0 = A 1 13
def mj_rC (cc m : Nat) (A B : mj_I) : Prop := (∀ s, s < m → B 46 (nI s) = A (cc + 1) (nI s) ∧ mj_in (A (cc + 1) (nI s)) 4 ∧ B 47 (nI s) = A (cc + 2) (nI s)) ∧ mj_CO m (A (cc + 2))
def mj_rP (cc p : Nat) (A B : mj_I) : Prop := ∀ q, q < p → B 48 (nI q) = A (cc + 3) (nI q) ∧ mj_in (A (cc + 3) (nI q)) 3 ∧ ∀ t, t < 3 → B 49 (nI (3 * q + t)) = A (cc + 5 + q) (nI t) ∧ mj_in (A (cc + 5 + q) (nI t)) 4
def mj_rD (p R : Nat) (A B : mj_I) : Prop := ∀ j, j < R → B 59 (nI j) = A 32 (nI j) ∧ B 60 (nI j) = A 33 (nI j) ∧ mj_in (A 32 (nI j)) p
def mj_rH1 (k : Nat) (A B : mj_I) : Prop := (0 ≤ (A (34 + 2 * k) 2).toInt ∧ (A (34 + 2 * k) 2).toInt ≤ 60) ∧ B 44 (nI k) = A (34 + 2 * k) 2 ∧ ((A (34 + 2 * k) 0 = 0 ∧ B 43 (nI k) = -9) ∨ (A (34 + 2 * k) 0 = 1 ∧ B 43 (nI k) = A (34 + 2 * k) 1 ∧ mj_in (A (34 + 2 * k) 1) 3)) ∧ ∀ j, j < 60 → B 45 (nI (60 * k + j)) = A (34 + 2 * k + 1) (nI j)
def mj_rH (A B : mj_I) : Prop := ∀ k, k < 4 → mj_rH1 k A B
def mj_rF (m : Nat) (B : mj_I) : Prop := B 42 23 = 0 ∨ (B 42 23 = 1 ∧ mj_TO m B)
def mj_rE (A : mj_I) : Prop := ∀ y, mj_in y 3072 → (A 22 y).toInt < 3072
def mj_RL (cc m p R : Nat) (A B : mj_I) : Prop := (m ≤ 6 ∧ p ≤ 3 ∧ R ≤ 8) ∧ mj_rS cc m p R A B ∧ mj_rT A B ∧ mj_rC cc m A B ∧ mj_rP cc p A B ∧ mj_rD p R A B ∧ mj_rH A B ∧ mj_rF m B ∧ mj_rE A
/-- the same above, the same below -/
def rq_hi (I J : mj_I) : Prop := ∀ k, 42 ≤ k ∨ k = 0 → J k = I k
def rq_lo (I J : mj_I) : Prop := ∀ k, k ≤ 41 → J k = I k
theorem rq_hi_rf {I : mj_I} : rq_hi I I := fun _ _ => rfl
theorem rq_lo_rf {I : mj_I} : rq_lo I I := fun _ _ => rfl
theorem rq_hi_up {I J : mj_I} {a : Nat} {i v : Int32} (h : rq_hi I J) (ha : 1 ≤ a ∧ a < 42) : rq_hi I (mj_upI J a i v) := fun k hk => by
  rw [mj_upI_ne (by omega)]
  exact h k hk
theorem rq_lo_up {I J : mj_I} {a : Nat} {i v : Int32} (h : rq_lo I J) (ha : 41 < a) : rq_lo I (mj_upI J a i v) := fun k hk => by
  rw [mj_upI_ne (by omega)]
  exact h k hk
theorem rq_hi_fil {I J : mj_I} {a n : Nat} {v : Int32} (h : rq_hi I J) (ha : 1 ≤ a ∧ a < 42) : rq_hi I (mj_fil J a n v) := fun k hk => by
  rw [mj_fil_ne (by omega)]
  exact h k hk
theorem rq_hi_cpy {I J : mj_I} {a e : Nat} {i j n : Int32} (h : rq_hi I J) (ha : 1 ≤ e ∧ e < 42) : rq_hi I (mj_cpy J a e i j n) := fun k hk => by
  rw [mj_cpy_ne (by omega)]
  exact h k hk
theorem mj_TO_eq {m : Nat} {B B' : mj_I} (h : mj6_ce B B') (h57 : B' 57 = B 57) (hT : mj_TO m B) : mj_TO m B' := by
  have hm : ∀ x t, s_X6_mayGo x t B' = s_X6_mayGo x t B := by
    intro x t
    unfold s_X6_mayGo
    rw [h.2.2.2.1]
  have hc : ∀ d v, mj_can m B' d v ↔ mj_can m B d v := by
    intro d
    induction d with
    | zero => intro v; exact Iff.rfl
    | succ d ih =>
      intro v
      simp only [mj_can, ih, hm, mj6_B_eq h]
  intro v hv hs
  rw [mj6_is_eq h] at hs
  have := hT v hv hs
  simp only [hc, h57]
  exact this
theorem mj_RL_B {cc m p R : Nat} {A B B' : mj_I} (h : rq_hi B B') (hR : mj_RL cc m p R A B) : mj_RL cc m p R A B' := by
  obtain ⟨a, b, c, d, e, f, g, k, q⟩ := hR
  have h42 := h 42 (Or.inl (by omega))
  have h43 := h 43 (Or.inl (by omega))
  have h44 := h 44 (Or.inl (by omega))
  have h45 := h 45 (Or.inl (by omega))
  have h46 := h 46 (Or.inl (by omega))
  have h47 := h 47 (Or.inl (by omega))
  have h48 := h 48 (Or.inl (by omega))
  have h49 := h 49 (Or.inl (by omega))
  have h57 := h 57 (Or.inl (by omega))
  have h59 := h 59 (Or.inl (by omega))
  have h60 := h 60 (Or.inl (by omega))
  refine ⟨a, ?_, ?_, ?_, ?_, ?_, ?_, ?_, q⟩
  · unfold mj_rS at b ⊢; rw [h42]; exact b
  · unfold mj_rT at c ⊢; rw [h42]; exact c
  · unfold mj_rC at d ⊢; rw [h46, h47]; exact d
  · unfold mj_rP at e ⊢; rw [h48, h49]; exact e
  · unfold mj_rD at f ⊢; rw [h59, h60]; exact f
  · unfold mj_rH mj_rH1 at g ⊢; rw [h43, h44, h45]; exact g
  · unfold mj_rF at k ⊢
    rw [h42]
    rcases k with k | ⟨k1, k2⟩
    · exact Or.inl k
    · exact Or.inr ⟨k1, mj_TO_eq ⟨by rw [h42], by rw [h42], h46, h47, h48, h49⟩ h57 k2⟩
theorem mj_RL_A {cc m p R : Nat} {A A' B : mj_I} (hcc : cc = 2 ∨ cc = 10) (h : rq_lo A A') (hR : mj_RL cc m p R A B) : mj_RL cc m p R A' B := by
  obtain ⟨a, b, c, d, e, f, g, k, q⟩ := hR
  have h1 := h 1 (by omega)
  have h0 := h cc (by omega)
  have hc1 := h (cc + 1) (by omega)
  have hc2 := h (cc + 2) (by omega)
  have hc3 := h (cc + 3) (by omega)
  have h22 := h 22 (by omega)
  have h32 := h 32 (by omega)
  have h33 := h 33 (by omega)
  refine ⟨a, ?_, ?_, ?_, ?_, ?_, ?_, k, ?_⟩
  · unfold mj_rS at b ⊢; rw [h0, h1]; exact b
  · unfold mj_rT at c ⊢; rw [h1]; exact c
  · unfold mj_rC at d ⊢; rw [hc1, hc2]; exact d
  · intro s hs
    have := e s hs
    rw [hc3, h (cc + 5 + s) (by have := a.2.1; omega)]
    exact this
  · unfold mj_rD at f ⊢; rw [h32, h33]; exact f
  · intro j hj
    have := g j hj
    unfold mj_rH1 at this ⊢
    rw [h (34 + 2 * j) (by omega), h (34 + 2 * j + 1) (by omega)]
    exact this
  · unfold mj_rE at q ⊢; rw [h22]; exact q
theorem rq_pre5 {cc m p R : Nat} {A B : mj_I} (h : mj_RL cc m p R A B) : m ≤ 6 ∧ p ≤ 3 ∧ A cc 0 = nI m ∧ A cc 1 = nI p ∧ (A cc 0).toInt ≤ 6 ∧ (A cc 1).toInt ≤ 3 ∧ (0 ≤ (A 1 11).toInt ∧ (A 1 11).toInt ≤ 8) ∧ (∀ j : Nat, j < 4 → 0 ≤ (A (34 + 2 * j) 2).toInt ∧ (A (34 + 2 * j) 2).toInt ≤ 60) ∧ mj_J cc 0 p R A ∧ (∀ j, j < m → ∃ q, q < 64 ∧ A (cc + 2) (nI j) = nI q) ∧ (∀ y, mj_in y 3072 → (A 22 y).toInt < 3072) := by
  obtain ⟨⟨hm, hp, hR⟩, ⟨⟨s5, _⟩, ⟨p5, _⟩, ⟨r5, _⟩⟩, _, ⟨_, q, hq, _⟩, _, hD, hH, _, hE⟩ := h
  refine ⟨hm, hp, s5, p5, ?_, ?_, ?_, fun j hj => (hH j hj).1, ⟨by omega, fun j hj => absurd hj (by omega), p5, hp, r5, hR, fun j hj => mj_in_le (hD j hj).2.2 hp⟩, fun j hj => ⟨q j, ?_, (hq j hj).1⟩, hE⟩
  · rw [s5, nI_toInt (by omega)]; omega
  · rw [p5, nI_toInt (by omega)]; omega
  · rw [r5, nI_toInt (by omega)]; omega
  · have := (hq j hj).2
    have h6 : 2 ^ m ≤ 2 ^ 6 := Nat.pow_le_pow_right (by omega) hm
    omega
theorem rq_pre6 {cc m p R : Nat} {A B : mj_I} (h : mj_RL cc m p R A B) : m ≤ 6 ∧ p ≤ 3 ∧ B 42 5 = nI m ∧ B 42 6 = nI p ∧ (B 42 5).toInt ≤ 6 ∧ (B 42 6).toInt ≤ 3 ∧ (0 ≤ (B 42 25).toInt ∧ (B 42 25).toInt ≤ 8) ∧ (∀ k, mj_in k 4 → 0 ≤ (B 44 k).toInt ∧ (B 44 k).toInt ≤ 60) ∧ mj6_J0 p R B := by
  obtain ⟨⟨hm, hp, hR⟩, ⟨⟨_, s6⟩, ⟨_, p6⟩, ⟨_, r6⟩⟩, _, _, _, hD, hH, _, _⟩ := h
  have e5 : (B 42 5).toInt ≤ 6 := by rw [s6, nI_toInt (by omega)]; omega
  refine ⟨hm, hp, s6, p6, e5, ?_, ?_, ?_, ⟨e5, hp, p6, r6, hR, fun j hj => ?_⟩⟩
  · rw [p6, nI_toInt (by omega)]; omega
  · rw [r6, nI_toInt (by omega)]; omega
  · intro k hk
    obtain ⟨j, hj, rfl⟩ := mj6_nat hk (by decide)
    rw [(hH j hj).2.1]
    exact (hH j hj).1
  · rw [(hD j hj).1]
    exact mj_in_le (hD j hj).2.2 hp
def rq_V {α : Type} (cc : Nat) (x y : α × mj_I) : Prop := x.1 = y.1 ∧ ∃ m p R, mj_RL cc m p R x.2 y.2
/-- one world that is its own counterpart -/
def rq_W (cc dd : Nat) (I : mj_I) : Prop := ((cc = 2 ∧ dd = 10) ∨ (cc = 10 ∧ dd = 2)) ∧ ∃ m p R, mj_RL cc m p R I I
theorem rq_W_of {cc dd : Nat} {A C : mj_I} (hcc : (cc = 2 ∧ dd = 10) ∨ (cc = 10 ∧ dd = 2)) (hl : rq_lo A C) (h : ∃ m p R, mj_RL cc m p R A C) : rq_W cc dd C := by
  obtain ⟨m, p, R, h⟩ := h
  exact ⟨hcc, m, p, R, mj_RL_A (by omega) hl h⟩
