/-! counts; copies -/
def rq_e (q : Nat → Nat) (a b : Nat) : Nat := ((q a).testBit b).toNat
theorem rq_nIs (a b : Nat) : nI a + nI b = nI (a + b) := nI_add a b
theorem rq_pop {x : Nat} (hx : x < 64) : sp_pop (nI x) = nI ((x.testBit 0).toNat + (x.testBit 1).toNat + (x.testBit 2).toNat + (x.testBit 3).toNat + (x.testBit 4).toNat + (x.testBit 5).toNat) := rq_b5 ⟨x, hx⟩
/-- the sum of the sets' sizes -/
def rq_s1 (q : Nat → Nat) : Nat → Nat → Nat
  | 0, _ => 0
  | k + 1, j => (rq_e q j 0 + rq_e q j 1 + rq_e q j 2 + rq_e q j 3 + rq_e q j 4 + rq_e q j 5) + rq_s1 q k (j + 1)
def rq_s2 (q : Nat → Nat) (s : Nat) : Nat → Nat → Nat
  | 0, _ => 0
  | k + 1, j => rq_e q s j + rq_s2 q s k (j + 1)
def rq_s3 (q : Nat → Nat) (m : Nat) : Nat → Nat → Nat
  | 0, _ => 0
  | k + 1, j => rq_s2 q j (m - (j + 1)) (j + 1) + rq_s3 q m k (j + 1)
theorem rq_cnt {m : Nat} {C : Int32 → Int32} {q : Nat → Nat} (hm : m ≤ 6) (hq : ∀ a, a < m → C (nI a) = nI (q a) ∧ q a < 2 ^ m) : ∀ (k j : Nat) (a : Nat), k + j ≤ m → sp_cnt C k j (nI a) = nI (a + rq_s1 q k j) := by
  intro k
  induction k with
  | zero => intro j a _; rfl
  | succ k ih =>
    intro j a hk
    rw [sp_cnt, (hq j (by omega)).1, rq_pop (rq_q64 hm (hq j (by omega)).2), nI_add, ih _ _ (by omega), rq_s1]
    congr 1
    unfold rq_e
    omega
theorem rq_c2v {m s : Nat} {B : mj_I} {q : Nat → Nat} (hm : m ≤ 6) (hs : s < m) (hq : ∀ a, a < m → B 47 (nI a) = nI (q a) ∧ q a < 2 ^ m) : ∀ (k j : Nat) (a : Nat), k + j ≤ m → (s_X6_c2 m s k j (nI a) B).1 = nI (a + rq_s2 q s k j) := by
  intro k
  induction k with
  | zero => intro j a _; rfl
  | succ k ih =>
    intro j a hk
    rw [s_X6_c2, (hq s hs).1, rq_bit (rq_q64 hm (hq s hs).2) (by omega), nI_add, ih _ _ (by omega), rq_s2]
    congr 1
    unfold rq_e
    omega
theorem rq_c1v {m : Nat} {B : mj_I} {q : Nat → Nat} (hm : m ≤ 6) (hq : ∀ a, a < m → B 47 (nI a) = nI (q a) ∧ q a < 2 ^ m) : ∀ (k j : Nat) (a : Nat), k + j ≤ m → (s_X6_c1 m k j (nI a) B).1 = nI (a + rq_s3 q m k j) := by
  intro k
  induction k with
  | zero => intro j a _; rfl
  | succ k ih =>
    intro j a hk
    rw [s_X6_c1, mj6_c2_eq, rq_c2v hm (by omega) hq _ _ _ (by omega), ih _ _ (by omega), rq_s3]
    congr 1
    omega
theorem rq_half {m : Nat} {q : Nat → Nat} (hm : m ≤ 6) (hlt : ∀ a, a < m → q a < 2 ^ m) (hsym : ∀ a, a < m → ∀ b, b < m → (q a).testBit b = (q b).testBit a) (hirr : ∀ a, a < m → (q a).testBit a = false) : rq_s1 q m 0 = 2 * rq_s3 q m m 0 ∧ rq_s3 q m m 0 ≤ 15 := by
  have hs : ∀ a b, a < m → b < m → rq_e q a b = rq_e q b a := fun a b ha hb => by unfold rq_e; rw [hsym a ha b hb]
  have hi : ∀ a, a < m → rq_e q a a = 0 := fun a ha => by unfold rq_e; rw [hirr a ha]; rfl
  have hz : ∀ a b, a < m → m ≤ b → rq_e q a b = 0 := fun a b ha hb => by
    unfold rq_e
    rw [Nat.testBit_lt_two_pow (Nat.lt_of_lt_of_le (hlt a ha) (Nat.pow_le_pow_right (by omega) hb))]
    rfl
  have h1 : ∀ a b, rq_e q a b ≤ 1 := fun a b => by
    unfold rq_e
    cases (q a).testBit b <;> decide
  have hm7 : m = 0 ∨ m = 1 ∨ m = 2 ∨ m = 3 ∨ m = 4 ∨ m = 5 ∨ m = 6 := by omega
  rcases hm7 with rfl | rfl | rfl | rfl | rfl | rfl | rfl
  · exact ⟨rfl, Nat.zero_le _⟩
  · simp only [rq_s1, rq_s2, rq_s3, Nat.reduceAdd, Nat.reduceSub, hi 0 (by omega), hz 0 1 (by omega) (by omega), hz 0 2 (by omega) (by omega), hz 0 3 (by omega) (by omega), hz 0 4 (by omega) (by omega), hz 0 5 (by omega) (by omega)]
    decide
  · have z := fun a (ha : a < 2) b (hb : 2 ≤ b) => hz a b ha hb
    simp only [rq_s1, rq_s2, rq_s3, Nat.reduceAdd, Nat.reduceSub, hi 0 (by omega), hi 1 (by omega), z 0 (by omega) 2 (by omega), z 0 (by omega) 3 (by omega), z 0 (by omega) 4 (by omega), z 0 (by omega) 5 (by omega), z 1 (by omega) 2 (by omega), z 1 (by omega) 3 (by omega), z 1 (by omega) 4 (by omega), z 1 (by omega) 5 (by omega), hs 1 0 (by omega) (by omega)]
    have := h1 0 1
    omega
  · have z := fun a (ha : a < 3) b (hb : 3 ≤ b) => hz a b ha hb
    simp only [rq_s1, rq_s2, rq_s3, Nat.reduceAdd, Nat.reduceSub, hi 0 (by omega), hi 1 (by omega), hi 2 (by omega), z 0 (by omega) 3 (by omega), z 0 (by omega) 4 (by omega), z 0 (by omega) 5 (by omega), z 1 (by omega) 3 (by omega), z 1 (by omega) 4 (by omega), z 1 (by omega) 5 (by omega), z 2 (by omega) 3 (by omega), z 2 (by omega) 4 (by omega), z 2 (by omega) 5 (by omega), hs 1 0 (by omega) (by omega), hs 2 0 (by omega) (by omega), hs 2 1 (by omega) (by omega)]
    have := h1 0 1
    have := h1 0 2
    have := h1 1 2
    omega
  · have z := fun a (ha : a < 4) b (hb : 4 ≤ b) => hz a b ha hb
    simp only [rq_s1, rq_s2, rq_s3, Nat.reduceAdd, Nat.reduceSub, hi 0 (by omega), hi 1 (by omega), hi 2 (by omega), hi 3 (by omega), z 0 (by omega) 4 (by omega), z 0 (by omega) 5 (by omega), z 1 (by omega) 4 (by omega), z 1 (by omega) 5 (by omega), z 2 (by omega) 4 (by omega), z 2 (by omega) 5 (by omega), z 3 (by omega) 4 (by omega), z 3 (by omega) 5 (by omega), hs 1 0 (by omega) (by omega), hs 2 0 (by omega) (by omega), hs 2 1 (by omega) (by omega), hs 3 0 (by omega) (by omega), hs 3 1 (by omega) (by omega), hs 3 2 (by omega) (by omega)]
    have := h1 0 1
    have := h1 0 2
    have := h1 1 2
    have := h1 0 3
    have := h1 1 3
    have := h1 2 3
    omega
  · have z := fun a (ha : a < 5) => hz a 5 ha (by omega)
    simp only [rq_s1, rq_s2, rq_s3, Nat.reduceAdd, Nat.reduceSub, hi 0 (by omega), hi 1 (by omega), hi 2 (by omega), hi 3 (by omega), hi 4 (by omega), z 0 (by omega), z 1 (by omega), z 2 (by omega), z 3 (by omega), z 4 (by omega), hs 1 0 (by omega) (by omega), hs 2 0 (by omega) (by omega), hs 2 1 (by omega) (by omega), hs 3 0 (by omega) (by omega), hs 3 1 (by omega) (by omega), hs 3 2 (by omega) (by omega), hs 4 0 (by omega) (by omega), hs 4 1 (by omega) (by omega), hs 4 2 (by omega) (by omega), hs 4 3 (by omega) (by omega)]
    have := h1 0 1
    have := h1 0 2
    have := h1 1 2
    have := h1 0 3
    have := h1 1 3
    have := h1 2 3
    have := h1 0 4
    have := h1 1 4
    have := h1 2 4
    have := h1 3 4
    omega
  · simp only [rq_s1, rq_s2, rq_s3, Nat.reduceAdd, Nat.reduceSub, hi 0 (by omega), hi 1 (by omega), hi 2 (by omega), hi 3 (by omega), hi 4 (by omega), hi 5 (by omega), hs 1 0 (by omega) (by omega), hs 2 0 (by omega) (by omega), hs 2 1 (by omega) (by omega), hs 3 0 (by omega) (by omega), hs 3 1 (by omega) (by omega), hs 3 2 (by omega) (by omega), hs 4 0 (by omega) (by omega), hs 4 1 (by omega) (by omega), hs 4 2 (by omega) (by omega), hs 4 3 (by omega) (by omega), hs 5 0 (by omega) (by omega), hs 5 1 (by omega) (by omega), hs 5 2 (by omega) (by omega), hs 5 3 (by omega) (by omega), hs 5 4 (by omega) (by omega)]
    have := h1 0 1
    have := h1 0 2
    have := h1 1 2
    have := h1 0 3
    have := h1 1 3
    have := h1 2 3
    have := h1 0 4
    have := h1 1 4
    have := h1 2 4
    have := h1 3 4
    have := h1 0 5
    have := h1 1 5
    have := h1 2 5
    have := h1 3 5
    have := h1 4 5
    omega
theorem rq_n2 : ∀ x : Fin 16, nI (2 * x.1) / 2 = nI x.1 := by decide +kernel
section VI
variable {cc m p R : Nat} {A B : mj_I}
theorem rq_v_many (hc : cc = 2 ∨ cc = 10) (h : mj_RL cc m p R A B) (w : Int32) : rq_V cc ((s_X5_many cc m w A, A) : Int32 × mj_I) (s_X6_many m w B) := by
  refine ⟨?_, m, p, R, by rw [rq_ma_eq]; exact h⟩
  obtain ⟨⟨hm, _, _⟩, ⟨⟨s5, s6⟩, ⟨p5, p6⟩, ⟨r5, r6⟩⟩, _, ⟨hC, q, hq, hsym, hirr⟩, _⟩ := h
  show s_X5_many cc m w A = (s_X6_many m w B).1
  unfold s_X5_many s_X6_many
  rw [s5, s6, p5, p6, r5, r6]
  by_cases w0 : w = 0
  · rw [if_pos w0, if_pos w0]
  · rw [if_neg w0, if_neg w0]
    by_cases w1 : w = 1
    · rw [if_pos w1, if_pos w1]
    · rw [if_neg w1, if_neg w1]
      by_cases w2 : w = 2
      · rw [if_pos w2, if_pos w2]
        have hq6 : ∀ a, a < m → B 47 (nI a) = nI (q a) ∧ q a < 2 ^ m := fun a ha => ⟨(hC a ha).2.2.trans (hq a ha).1, (hq a ha).2⟩
        have e5 := rq_cnt hm hq m 0 0 (by omega)
        have e6 := rq_c1v hm hq6 m 0 0 (by omega)
        obtain ⟨h1, h2⟩ := rq_half hm (fun a ha => (hq a ha).2) hsym hirr
        show sp_cnt (A (cc + 2)) m 0 (nI 0) / 2 = (s_X6_c1 m m 0 (nI 0) B).1
        rw [e5, e6, h1, Nat.zero_add, Nat.zero_add]
        exact rq_n2 ⟨rq_s3 q m m 0, by omega⟩
      · rw [if_neg w2, if_neg w2]
        by_cases w3 : w = 3
        · rw [if_pos w3, if_pos w3]
        · rw [if_neg w3, if_neg w3]
end VI
