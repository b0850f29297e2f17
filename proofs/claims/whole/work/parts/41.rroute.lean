/-! the reference: routes -/
/-- how far a plant may be: a half day only with a kind that counts them -/
def mj6_fok (K g : Int32) : Prop := mj_in g 7 ∧ (K = 1 ∨ g = 0 ∨ g = 2 ∨ g = 4 ∨ g = 6)
theorem mj6_nat {g : Int32} {n : Nat} (h : mj_in g n) (hn : n < 2147483648) : ∃ k : Nat, k < n ∧ g = nI k := by
  have a := mj_inb h
  exact ⟨g.toInt.toNat, by omega, mj_ofI (by rw [nI_toInt (by omega)]; omega)⟩
theorem mj6_on {q g e : Int32} {I : mj_I} (h : mj6_fok (I 48 q) g) : mj6_fok (I 48 q) (s_X6_onBy q g e I) := by
  obtain ⟨h1, h2⟩ := h
  obtain ⟨k, hk, rfl⟩ := mj6_nat h1 (by decide)
  unfold s_X6_onBy mj6_fok
  have hc : k = 0 ∨ k = 1 ∨ k = 2 ∨ k = 3 ∨ k = 4 ∨ k = 5 ∨ k = 6 := by omega
  rcases hc with rfl | rfl | rfl | rfl | rfl | rfl | rfl
  all_goals (repeat' split)
  all_goals first
    | exact absurd rfl (by assumption : ¬ nI 6 = 6)
    | exact ⟨mj_in_d (by decide), Or.inr (by decide)⟩
    | exact ⟨mj_in_d (by decide), Or.inl (by assumption)⟩
    | (exfalso; rcases h2 with h2 | h2; · contradiction
       · revert h2; decide)
def mj6_G (m p : Nat) (I : mj_I) : Prop := m ≤ 24 ∧ p ≤ 3 ∧ I 42 19 = nI m ∧ I 42 6 = nI p ∧ (∀ j : Nat, j < m → mj_in (I 54 (nI j)) 6) ∧ (∀ j : Nat, j < p → mj6_fok (I 48 (nI j)) (I 55 (nI j)))
theorem mj6_G_up {m p j : Nat} {I : mj_I} {v w : Int32} (h : mj6_G m p I) (hj : j < p) (hv : mj6_fok (I 48 (nI j)) v) : mj6_G m p (mj_upI (mj_upI I 55 (nI j) v) 56 (nI j) w) := by
  obtain ⟨a, b, c, d, e, f⟩ := h
  refine ⟨a, b, c, d, e, fun t ht => ?_⟩
  rw [mj_upI_ne (by decide), mj_upI_ne (by decide), mj_upI_ne (by decide), mj_upI_eq]
  by_cases hh : nI t = nI j
  · rw [if_pos hh, hh]; exact hv
  · rw [if_neg hh]; exact f t ht
theorem mj6_in3 {j p : Nat} (h : j < p) (hp : p ≤ 3) : mj_in (nI j) 3 := mj_in_nI (by omega) (by omega)
def s_X6_g3 (m : Nat) (p : Nat) (y : Nat) : Nat → Nat → mj_I → mj_I
  | 0, j, I => I
  | k + 1, j, I => if (I 56 (nI j) : Int32) = (-9) then (if ((mj_upI I 55 (nI j) (s_X6_onBy (nI j) (I 55 (nI j)) (I 46 (I 54 (nI y))) I)) 55 (nI j) : Int32) = 6 then (s_X6_g3 m p y k (j + 1)  (mj_upI (mj_upI I 55 (nI j) (s_X6_onBy (nI j) (I 55 (nI j)) (I 46 (I 54 (nI y))) I)) 56 (nI j) (nI y))) else (s_X6_g3 m p y k (j + 1)  (mj_upI (mj_upI I 55 (nI j) (s_X6_onBy (nI j) (I 55 (nI j)) (I 46 (I 54 (nI y))) I)) 56 (nI j) (I 56 (nI j))))) else (s_X6_g3 m p y k (j + 1)  (mj_upI (mj_upI I 55 (nI j) (s_X6_onBy (nI j) (I 55 (nI j)) (I 46 (I 54 (nI y))) I)) 56 (nI j) (I 56 (nI j))))
set_option maxHeartbeats 8000000 in
theorem x_X6_g3 (l : Launch) (b base : Nat) (D : va_G) (z : mj_K × (Int32 → Int32)) (N : Nat) (m : Nat) (p : Nat) (y : Nat) (c d r : Nat) (Q : Option Value → mj_S → Prop) (hy : y < m) : ∀ (k j : Nat) (I : mj_I), k = p - j → 0 ≤ j → j ≤ p + 1 → (mj6_G m p I) → ((∀ w_2 : Value, mj_Rn l b base D z mj_m_X6_goRoute 123 [.ref 42, .int (nI y), w_2] [] (mj_KS N, (s_X6_g3 m p y k j  I), mj_PP c d r) (Q))) → mj_Rn l b base D z mj_m_X6_goRoute 43 [.ref 42, .int (nI y), .int (nI j)] [] (mj_KS N, I, mj_PP c d r) (Q) := by
  intro k
  induction k with
  | zero =>
    intro j I hk hlo hj hG K
    have hp3 := hG.2.1
    refine R_seg (φ := []) (pc' := 48) (L' := [.ref 42, .int (nI y), .int (nI j)]) (st' := [.int (I 42 6), .int (nI j)]) (σ' := (mj_KS N, I, mj_PP c d r)) 3 rfl trivial ?_
    refine R_br (q := (nI j : Int32) < I 42 6) (t := 51) (f := 123) (rest := []) rfl (fun h1 => absurd h1 (by rw [hG.2.2.2.1]; exact nI_nlt (by omega) (by omega))) (fun h1 => ?_)
    exact K (.int (nI j))
  | succ k ih =>
    intro j I hk hlo hj hG K
    have hjm : j < p := by omega
    have hp3 := hG.2.1
    have hin3 : mj_in (nI j) 3 := mj6_in3 hjm hG.2.1
    have hg7 : mj_in (I 55 (nI j)) 7 := (hG.2.2.2.2.2 j hjm).1
    refine R_seg (φ := []) (pc' := 48) (L' := [.ref 42, .int (nI y), .int (nI j)]) (st' := [.int (I 42 6), .int (nI j)]) (σ' := (mj_KS N, I, mj_PP c d r)) 3 rfl trivial ?_
    refine R_br (q := (nI j : Int32) < I 42 6) (t := 51) (f := 123) (rest := []) rfl (fun h1 => ?_) (fun h1 => absurd (by rw [hG.2.2.2.1]; exact nI_lt hjm (by omega)) h1)
    refine R_seg (φ := [mj_in (nI j) 3, mj_in (nI y) 24, mj_in (I 54 (nI y)) 6]) (pc' := 75) (L' := [.ref 42, .int (nI y), .int (nI j)]) (st' := [.int (I 46 (I 54 (nI y))), .int (I 55 (nI j)), .int (nI j), .ref 42, .int (nI j), .ref 55]) (σ' := (mj_KS N, I, mj_PP c d r)) 16 rfl ⟨hin3, (mj_in_nI (Nat.lt_of_lt_of_le hy hG.1) (by decide)), (hG.2.2.2.2.1 y hy), trivial⟩ ?_
    refine R_ce (idx := 149) (mid := 115) (kind := 0) (N := N) (M' := mj_m_X6_onBy) (As := [.ref 42, .int (nI j), .int (I 55 (nI j)), .int (I 46 (I 54 (nI y)))]) (rest := [.int (nI j), .ref 55]) (I := I) (P := mj_PP c d r) (I' := I) (P' := mj_PP c d r) (v := some (.int (s_X6_onBy (nI j) (I 55 (nI j)) (I 46 (I 54 (nI y))) I))) rfl rfl rfl mj_mc115 mj_dc115 rfl rfl rfl rfl rfl rfl (x_X6_onBy l b base D z N (nI j) (I 55 (nI j)) (I 46 (I 54 (nI y))) I c d r (hin3) (hg7)) ?_
    refine R_seg (φ := [mj_in (nI j) 3, mj_in (nI j) 3]) (pc' := 92) (L' := [.ref 42, .int (nI y), .int (nI j)]) (st' := [.int (-9), .int (I 56 (nI j)), .int (nI j), .ref 56]) (σ' := (mj_KS N, (mj_upI I 55 (nI j) (s_X6_onBy (nI j) (I 55 (nI j)) (I 46 (I 54 (nI y))) I)), mj_PP c d r)) 9 rfl ⟨hin3, hin3, trivial⟩ ?_
    refine R_br (q := (I 56 (nI j) : Int32) = (-9)) (t := 95) (f := 110) (rest := [.int (nI j), .ref 56]) rfl (fun h2 => ?_) (fun h2 => ?_)
    · skip
      refine R_seg (φ := [mj_in (nI j) 3]) (pc' := 103) (L' := [.ref 42, .int (nI y), .int (nI j)]) (st' := [.int 6, .int ((mj_upI I 55 (nI j) (s_X6_onBy (nI j) (I 55 (nI j)) (I 46 (I 54 (nI y))) I)) 55 (nI j)), .int (nI j), .ref 56]) (σ' := (mj_KS N, (mj_upI I 55 (nI j) (s_X6_onBy (nI j) (I 55 (nI j)) (I 46 (I 54 (nI y))) I)), mj_PP c d r)) 5 rfl ⟨hin3, trivial⟩ ?_
      refine R_br (q := ((mj_upI I 55 (nI j) (s_X6_onBy (nI j) (I 55 (nI j)) (I 46 (I 54 (nI y))) I)) 55 (nI j) : Int32) = 6) (t := 106) (f := 110) (rest := [.int (nI j), .ref 56]) rfl (fun h3 => ?_) (fun h3 => ?_)
      · skip
        refine R_seg (φ := [mj_in (nI j) 3]) (pc' := 43) (L' := [.ref 42, .int (nI y), .int ((nI j) + 1)]) (st' := []) (σ' := (mj_KS N, (mj_upI (mj_upI I 55 (nI j) (s_X6_onBy (nI j) (I 55 (nI j)) (I 46 (I 54 (nI y))) I)) 56 (nI j) (nI y)), mj_PP c d r)) 5 rfl ⟨hin3, trivial⟩ ?_
        rw [nI_1 j]
        rw [show s_X6_g3 m p y (k + 1) j  I = s_X6_g3 m p y k (j + 1)  (mj_upI (mj_upI I 55 (nI j) (s_X6_onBy (nI j) (I 55 (nI j)) (I 46 (I 54 (nI y))) I)) 56 (nI j) (nI y)) from by simp only [s_X6_g3, if_pos h2, if_pos h3, Bool.false_eq_true, ↓reduceIte, Nat.reduceAdd, Nat.reduceMul, mj_tn0, mj_tn1, mj_tn2, mj_tn3]] at K
        exact ih (j + 1)  (mj_upI (mj_upI I 55 (nI j) (s_X6_onBy (nI j) (I 55 (nI j)) (I 46 (I 54 (nI y))) I)) 56 (nI j) (nI y)) (by omega) (by omega) (by omega) (mj6_G_up hG hjm (mj6_on (hG.2.2.2.2.2 j hjm))) K
      · skip
        refine R_seg (φ := [mj_in (nI j) 3, mj_in (nI j) 3]) (pc' := 43) (L' := [.ref 42, .int (nI y), .int ((nI j) + 1)]) (st' := []) (σ' := (mj_KS N, (mj_upI (mj_upI I 55 (nI j) (s_X6_onBy (nI j) (I 55 (nI j)) (I 46 (I 54 (nI y))) I)) 56 (nI j) (I 56 (nI j))), mj_PP c d r)) 7 rfl ⟨hin3, hin3, trivial⟩ ?_
        rw [nI_1 j]
        rw [show s_X6_g3 m p y (k + 1) j  I = s_X6_g3 m p y k (j + 1)  (mj_upI (mj_upI I 55 (nI j) (s_X6_onBy (nI j) (I 55 (nI j)) (I 46 (I 54 (nI y))) I)) 56 (nI j) (I 56 (nI j))) from by simp only [s_X6_g3, if_pos h2, if_neg h3, Bool.false_eq_true, ↓reduceIte, Nat.reduceAdd, Nat.reduceMul, mj_tn0, mj_tn1, mj_tn2, mj_tn3]] at K
        exact ih (j + 1)  (mj_upI (mj_upI I 55 (nI j) (s_X6_onBy (nI j) (I 55 (nI j)) (I 46 (I 54 (nI y))) I)) 56 (nI j) (I 56 (nI j))) (by omega) (by omega) (by omega) (mj6_G_up hG hjm (mj6_on (hG.2.2.2.2.2 j hjm))) K
    · skip
      refine R_seg (φ := [mj_in (nI j) 3, mj_in (nI j) 3]) (pc' := 43) (L' := [.ref 42, .int (nI y), .int ((nI j) + 1)]) (st' := []) (σ' := (mj_KS N, (mj_upI (mj_upI I 55 (nI j) (s_X6_onBy (nI j) (I 55 (nI j)) (I 46 (I 54 (nI y))) I)) 56 (nI j) (I 56 (nI j))), mj_PP c d r)) 7 rfl ⟨hin3, hin3, trivial⟩ ?_
      rw [nI_1 j]
      rw [show s_X6_g3 m p y (k + 1) j  I = s_X6_g3 m p y k (j + 1)  (mj_upI (mj_upI I 55 (nI j) (s_X6_onBy (nI j) (I 55 (nI j)) (I 46 (I 54 (nI y))) I)) 56 (nI j) (I 56 (nI j))) from by simp only [s_X6_g3, if_neg h2, Bool.false_eq_true, ↓reduceIte, Nat.reduceAdd, Nat.reduceMul, mj_tn0, mj_tn1, mj_tn2, mj_tn3]] at K
      exact ih (j + 1)  (mj_upI (mj_upI I 55 (nI j) (s_X6_onBy (nI j) (I 55 (nI j)) (I 46 (I 54 (nI y))) I)) 56 (nI j) (I 56 (nI j))) (by omega) (by omega) (by omega) (mj6_G_up hG hjm (mj6_on (hG.2.2.2.2.2 j hjm))) K
theorem mj6_g3_G (m p y : Nat) : ∀ (k j : Nat) (I : mj_I), k + j ≤ p → mj6_G m p I → mj6_G m p (s_X6_g3 m p y k j I) := by
  intro k
  induction k with
  | zero => intro j I _ h; exact h
  | succ k ih =>
    intro j I hk h
    have hu := fun w => mj6_G_up (j := j) (w := w) h (by omega) (mj6_on (e := I 46 (I 54 (nI y))) (h.2.2.2.2.2 j (by omega)))
    rw [s_X6_g3]
    repeat' split
    all_goals exact ih _ _ (by omega) (hu _)
def s_X6_g2 (m : Nat) (p : Nat) : Nat → Nat → mj_I → mj_I
  | 0, j, I => I
  | k + 1, j, I => s_X6_g2 m p k (j + 1)  (s_X6_g3 m p j p 0  I)
set_option maxHeartbeats 8000000 in
theorem x_X6_g2 (l : Launch) (b base : Nat) (D : va_G) (z : mj_K × (Int32 → Int32)) (N : Nat) (m : Nat) (p : Nat) (c d r : Nat) : ∀ (k j : Nat) (w2 : Value) (I : mj_I), k = m - j → 0 ≤ j → j ≤ m + 1 → (mj6_G m p I) → mj_Rn l b base D z mj_m_X6_goRoute 33 [.ref 42, .int (nI j), w2] [] (mj_KS N, I, mj_PP c d r) (mj_E N none (s_X6_g2 m p k j  I) (mj_PP c d r)) := by
  intro k
  induction k with
  | zero =>
    intro j w2 I hk hlo hj hG
    have hm24 := hG.1
    refine R_seg (φ := []) (pc' := 38) (L' := [.ref 42, .int (nI j), w2]) (st' := [.int (I 42 19), .int (nI j)]) (σ' := (mj_KS N, I, mj_PP c d r)) 3 rfl trivial ?_
    refine R_br (q := (nI j : Int32) < I 42 19) (t := 41) (f := 129) (rest := []) rfl (fun h1 => absurd h1 (by rw [hG.2.2.1]; exact nI_nlt (by omega) (by omega))) (fun h1 => ?_)
    exact R_rv rfl rfl (mj_leaf (by simp only [s_X6_g2, Bool.false_eq_true, ↓reduceIte, Nat.reduceAdd, Nat.reduceMul, mj_tn0, mj_tn1, mj_tn2, mj_tn3]) (by simp only [s_X6_g2, Bool.false_eq_true, ↓reduceIte, Nat.reduceAdd, Nat.reduceMul, mj_tn0, mj_tn1, mj_tn2, mj_tn3]))
  | succ k ih =>
    intro j w2 I hk hlo hj hG
    have hjm : j < m := by omega
    have hm24 := hG.1
    refine R_seg (φ := []) (pc' := 38) (L' := [.ref 42, .int (nI j), w2]) (st' := [.int (I 42 19), .int (nI j)]) (σ' := (mj_KS N, I, mj_PP c d r)) 3 rfl trivial ?_
    refine R_br (q := (nI j : Int32) < I 42 19) (t := 41) (f := 129) (rest := []) rfl (fun h1 => ?_) (fun h1 => absurd (by rw [hG.2.2.1]; exact nI_lt hjm (by omega)) h1)
    refine R_seg (φ := []) (pc' := 43) (L' := [.ref 42, .int (nI j), .int 0]) (st' := []) (σ' := (mj_KS N, I, mj_PP c d r)) 2 rfl trivial ?_
    refine x_X6_g3 l b base D z N m p j c d r _ hjm p 0  I (by omega) (by omega) (by omega) hG ?_
    intro w_2
    refine R_seg (φ := []) (pc' := 33) (L' := [.ref 42, .int ((nI j) + 1), w_2]) (st' := []) (σ' := (mj_KS N, (s_X6_g3 m p j p 0  I), mj_PP c d r)) 2 rfl trivial ?_
    rw [nI_1 j]
    rw [show s_X6_g2 m p (k + 1) j  I = s_X6_g2 m p k (j + 1)  (s_X6_g3 m p j p 0  I) from by simp only [s_X6_g2, Bool.false_eq_true, ↓reduceIte, Nat.reduceAdd, Nat.reduceMul, mj_tn0, mj_tn1, mj_tn2, mj_tn3]]
    exact ih (j + 1)  w_2 (s_X6_g3 m p j p 0  I) (by omega) (by omega) (by omega) (mj6_g3_G m p j p 0 I (by omega) hG)
def mj6_G0 (m p : Nat) (I : mj_I) : Prop := m ≤ 24 ∧ p ≤ 3 ∧ I 42 19 = nI m ∧ I 42 6 = nI p ∧ (∀ j : Nat, j < m → mj_in (I 54 (nI j)) 6)
theorem mj6_g2_G (m p : Nat) : ∀ (k j : Nat) (I : mj_I), mj6_G m p I → mj6_G m p (s_X6_g2 m p k j I) := by
  intro k
  induction k with
  | zero => intro j I h; exact h
  | succ k ih =>
    intro j I h
    rw [s_X6_g2]
    exact ih _ _ (mj6_g3_G m p j p 0 I (by omega) h)
def s_X6_g1 (p : Nat) : Nat → Nat → mj_I → mj_I
  | 0, j, I => I
  | k + 1, j, I => s_X6_g1 p k (j + 1)  (mj_upI (mj_upI I 55 (nI j) 0) 56 (nI j) (-9))
set_option maxHeartbeats 8000000 in
theorem x_X6_g1 (l : Launch) (b base : Nat) (D : va_G) (z : mj_K × (Int32 → Int32)) (N : Nat) (p : Nat) (c d r : Nat) (Q : Option Value → mj_S → Prop) (hp3 : p ≤ 3) : ∀ (k j : Nat) (w2 : Value) (I : mj_I), k = p - j → 0 ≤ j → j ≤ p + 1 → (I 42 6 = nI p) → ((∀ w_1 w_2 : Value, mj_Rn l b base D z mj_m_X6_goRoute 31 [.ref 42, w_1, w_2] [] (mj_KS N, (s_X6_g1 p k j  I), mj_PP c d r) (Q))) → mj_Rn l b base D z mj_m_X6_goRoute 2 [.ref 42, .int (nI j), w2] [] (mj_KS N, I, mj_PP c d r) (Q) := by
  intro k
  induction k with
  | zero =>
    intro j w2 I hk hlo hj hp K
    refine R_seg (φ := []) (pc' := 7) (L' := [.ref 42, .int (nI j), w2]) (st' := [.int (I 42 6), .int (nI j)]) (σ' := (mj_KS N, I, mj_PP c d r)) 3 rfl trivial ?_
    refine R_br (q := (nI j : Int32) < I 42 6) (t := 10) (f := 31) (rest := []) rfl (fun h1 => absurd h1 (by rw [hp]; exact nI_nlt (by omega) (by omega))) (fun h1 => ?_)
    exact K (.int (nI j)) w2
  | succ k ih =>
    intro j w2 I hk hlo hj hp K
    have hjm : j < p := by omega
    have hin3 : mj_in (nI j) 3 := mj6_in3 hjm hp3
    refine R_seg (φ := []) (pc' := 7) (L' := [.ref 42, .int (nI j), w2]) (st' := [.int (I 42 6), .int (nI j)]) (σ' := (mj_KS N, I, mj_PP c d r)) 3 rfl trivial ?_
    refine R_br (q := (nI j : Int32) < I 42 6) (t := 10) (f := 31) (rest := []) rfl (fun h1 => ?_) (fun h1 => absurd (by rw [hp]; exact nI_lt hjm (by omega)) h1)
    refine R_seg (φ := [mj_in (nI j) 3, mj_in (nI j) 3]) (pc' := 2) (L' := [.ref 42, .int ((nI j) + 1), w2]) (st' := []) (σ' := (mj_KS N, (mj_upI (mj_upI I 55 (nI j) 0) 56 (nI j) (-9)), mj_PP c d r)) 12 rfl ⟨hin3, hin3, trivial⟩ ?_
    rw [nI_1 j]
    rw [show s_X6_g1 p (k + 1) j  I = s_X6_g1 p k (j + 1)  (mj_upI (mj_upI I 55 (nI j) 0) 56 (nI j) (-9)) from by simp only [s_X6_g1, Bool.false_eq_true, ↓reduceIte, Nat.reduceAdd, Nat.reduceMul, mj_tn0, mj_tn1, mj_tn2, mj_tn3]] at K
    exact ih (j + 1)  w2 (mj_upI (mj_upI I 55 (nI j) 0) 56 (nI j) (-9)) (by omega) (by omega) (by omega) (hp) K
theorem mj6_g1_ne (p : Nat) (x : Nat) (h1 : x ≠ 55) (h2 : x ≠ 56) : ∀ (k j : Nat) (I : mj_I), s_X6_g1 p k j I x = I x := by
  intro k
  induction k with
  | zero => intro j I; rfl
  | succ k ih => intro j I; rw [s_X6_g1, ih, mj_upI_ne h2, mj_upI_ne h1]
theorem mj6_g1_0 (p : Nat) (t : Nat) (ht : t < 3) : ∀ (k j : Nat) (I : mj_I), j + k ≤ 3 → ((t < j → I 55 (nI t) = 0 ∧ I 56 (nI t) = -9) → t < j + k → s_X6_g1 p k j I 55 (nI t) = 0 ∧ s_X6_g1 p k j I 56 (nI t) = -9) := by
  intro k
  induction k with
  | zero => intro j I _ h h2; exact h h2
  | succ k ih =>
    intro j I h3 h h2
    rw [s_X6_g1]
    refine ih (j + 1) _ (by omega) (fun h4 => ?_) (by omega)
    rw [mj_upI_ne (by decide), mj_upI_eq, mj_upI_eq]
    by_cases hj : nI t = nI j
    · rw [if_pos hj, if_pos hj]; exact ⟨rfl, rfl⟩
    · rw [if_neg hj, if_neg hj, mj_upI_ne (by decide)]
      refine h ?_
      rcases Nat.lt_or_ge t j with q | q
      · exact q
      · exact absurd (congrArg nI (show t = j by omega)) hj
theorem mj6_g1_G (m p : Nat) (I : mj_I) (h : mj6_G0 m p I) : mj6_G m p (s_X6_g1 p p 0 I) := by
  obtain ⟨a, b, c, d, e⟩ := h
  refine ⟨a, b, ?_, ?_, ?_, fun j hj => ?_⟩
  · rw [mj6_g1_ne p 42 (by decide) (by decide)]; exact c
  · rw [mj6_g1_ne p 42 (by decide) (by decide)]; exact d
  · rw [mj6_g1_ne p 54 (by decide) (by decide)]; exact e
  · rw [(mj6_g1_0 p j (by omega) p 0 I (by omega) (fun q => absurd q (by omega)) (by omega)).1]
    exact ⟨mj_in_d (by decide), Or.inr (Or.inl rfl)⟩
def s_X6_goRoute (m : Nat) (p : Nat) (I : mj_I) : mj_I := s_X6_g2 m p m 0  (s_X6_g1 p p 0  I)
set_option maxHeartbeats 8000000 in
theorem x_X6_goRoute (l : Launch) (b base : Nat) (D : va_G) (z : mj_K × (Int32 → Int32)) (N : Nat) (m : Nat) (p : Nat) (I : mj_I) (c d r : Nat) (hG : mj6_G0 m p I) : mj_Rn l b base D z mj_m_X6_goRoute 0 [.ref 42, mj_mk, mj_mk] [] (mj_KS N, I, mj_PP c d r) (mj_E N none (s_X6_goRoute m p I) (mj_PP c d r)) := by
  refine R_seg (φ := []) (pc' := 2) (L' := [.ref 42, .int 0, mj_mk]) (st' := []) (σ' := (mj_KS N, I, mj_PP c d r)) 2 rfl trivial ?_
  refine x_X6_g1 l b base D z N p c d r _ hG.2.1 p 0  mj_mk I (by omega) (by omega) (by omega) hG.2.2.2.1 ?_
  intro w_1 w_2
  refine R_seg (φ := []) (pc' := 33) (L' := [.ref 42, .int 0, w_2]) (st' := []) (σ' := (mj_KS N, (s_X6_g1 p p 0  I), mj_PP c d r)) 2 rfl trivial ?_
  exact x_X6_g2 l b base D z N m p c d r  m 0  w_2 (s_X6_g1 p p 0  I) (by omega) (by omega) (by omega) (mj6_g1_G m p I hG)
theorem mj6_gr_G (m p : Nat) (I : mj_I) (h : mj6_G0 m p I) : mj6_G m p (s_X6_goRoute m p I) := mj6_g2_G m p m 0 _ (mj6_g1_G m p I h)
theorem mj6_G_0 {m p : Nat} {I : mj_I} (h : mj6_G m p I) : mj6_G0 m p I := ⟨h.1, h.2.1, h.2.2.1, h.2.2.2.1, h.2.2.2.2.1⟩
def s_X6_wd (m : Nat) (I : mj_I) : Nat → Nat → Int32
  | 0, j => (-9)
  | k + 1, j => if ((s_X6_mayGo (I 54 ((nI j) - 1)) (I 54 (nI j)) I) : Int32) = 0 then (nI j) else (s_X6_wd m I k (j + 1) )
set_option maxHeartbeats 8000000 in
theorem x_X6_wd (l : Launch) (b base : Nat) (D : va_G) (z : mj_K × (Int32 → Int32)) (N : Nat) (m : Nat) (I : mj_I) (c d r : Nat) (hm : m ≤ 24) (hd : I 42 19 = nI m) (hw : ∀ j : Nat, j < m → mj_in (I 54 (nI j)) 6) : ∀ (k j : Nat), k = m - j → 1 ≤ j → j ≤ m + 1 → mj_Rn l b base D z mj_m_X6_wrongDay 2 [.ref 42, .int (nI j)] [] (mj_KS N, I, mj_PP c d r) (mj_E N (some (.int (s_X6_wd m I k j ))) I (mj_PP c d r)) := by
  intro k
  induction k with
  | zero =>
    intro j hk hlo hj
    refine R_seg (φ := []) (pc' := 7) (L' := [.ref 42, .int (nI j)]) (st' := [.int (I 42 19), .int (nI j)]) (σ' := (mj_KS N, I, mj_PP c d r)) 3 rfl trivial ?_
    refine R_br (q := (nI j : Int32) < I 42 19) (t := 10) (f := 39) (rest := []) rfl (fun h1 => absurd h1 (by rw [hd]; exact nI_nlt (by omega) (by omega))) (fun h1 => ?_)
    refine R_seg (φ := []) (pc' := 41) (L' := [.ref 42, .int (nI j)]) (st' := [.int (-9)]) (σ' := (mj_KS N, I, mj_PP c d r)) 1 rfl trivial ?_
    exact R_ri rfl rfl (mj_leaf (by simp only [s_X6_wd, Bool.false_eq_true, ↓reduceIte, Nat.reduceAdd, Nat.reduceMul, mj_tn0, mj_tn1, mj_tn2, mj_tn3]) (by simp only [s_X6_wd, Bool.false_eq_true, ↓reduceIte, Nat.reduceAdd, Nat.reduceMul, mj_tn0, mj_tn1, mj_tn2, mj_tn3]))
  | succ k ih =>
    intro j hk hlo hj
    have hjm : j < m := by omega
    have hj1 : 1 ≤ j := by omega
    have hin : mj_in (nI j) 24 := mj_in_nI (by omega) (by omega)
    have hin1 : mj_in (nI j - 1) 24 := by rw [mj_nIm1 hj1]; exact mj_in_nI (by omega) (by omega)
    have hpr : mj_in (I 54 (nI j - 1)) 6 := by rw [mj_nIm1 hj1]; exact hw (j - 1) (by omega)
    have hin6 := hw j hjm
    refine R_seg (φ := []) (pc' := 7) (L' := [.ref 42, .int (nI j)]) (st' := [.int (I 42 19), .int (nI j)]) (σ' := (mj_KS N, I, mj_PP c d r)) 3 rfl trivial ?_
    refine R_br (q := (nI j : Int32) < I 42 19) (t := 10) (f := 39) (rest := []) rfl (fun h1 => ?_) (fun h1 => absurd (by rw [hd]; exact nI_lt hjm (by omega)) h1)
    refine R_seg (φ := [mj_in ((nI j) - 1) 24, mj_in (nI j) 24]) (pc' := 25) (L' := [.ref 42, .int (nI j)]) (st' := [.int (I 54 (nI j)), .int (I 54 ((nI j) - 1)), .ref 42]) (σ' := (mj_KS N, I, mj_PP c d r)) 11 rfl ⟨hin1, hin, trivial⟩ ?_
    refine R_ce (idx := 152) (mid := 113) (kind := 0) (N := N) (M' := mj_m_X6_mayGo) (As := [.ref 42, .int (I 54 ((nI j) - 1)), .int (I 54 (nI j))]) (rest := []) (I := I) (P := mj_PP c d r) (I' := I) (P' := mj_PP c d r) (v := some (.int (s_X6_mayGo (I 54 ((nI j) - 1)) (I 54 (nI j)) I))) rfl rfl rfl mj_mc113 mj_dc113 rfl rfl rfl rfl rfl rfl (x_X6_mayGo l b base D z N (I 54 ((nI j) - 1)) (I 54 (nI j)) I c d r (hpr)) ?_
    refine R_seg (φ := []) (pc' := 28) (L' := [.ref 42, .int (nI j)]) (st' := [.int (s_X6_mayGo (I 54 ((nI j) - 1)) (I 54 (nI j)) I)]) (σ' := (mj_KS N, I, mj_PP c d r)) 0 rfl trivial ?_
    refine R_br (q := ((s_X6_mayGo (I 54 ((nI j) - 1)) (I 54 (nI j)) I) : Int32) = 0) (t := 31) (f := 33) (rest := []) rfl (fun h2 => ?_) (fun h2 => ?_)
    · skip
      refine R_seg (φ := []) (pc' := 32) (L' := [.ref 42, .int (nI j)]) (st' := [.int (nI j)]) (σ' := (mj_KS N, I, mj_PP c d r)) 1 rfl trivial ?_
      exact R_ri rfl rfl (mj_leaf (by simp only [s_X6_wd, if_pos h2, Bool.false_eq_true, ↓reduceIte, Nat.reduceAdd, Nat.reduceMul, mj_tn0, mj_tn1, mj_tn2, mj_tn3]) (by simp only [s_X6_wd, if_pos h2, Bool.false_eq_true, ↓reduceIte, Nat.reduceAdd, Nat.reduceMul, mj_tn0, mj_tn1, mj_tn2, mj_tn3]))
    · skip
      refine R_seg (φ := []) (pc' := 2) (L' := [.ref 42, .int ((nI j) + 1)]) (st' := []) (σ' := (mj_KS N, I, mj_PP c d r)) 2 rfl trivial ?_
      rw [nI_1 j]
      rw [show s_X6_wd m I (k + 1) j  = s_X6_wd m I k (j + 1)  from by simp only [s_X6_wd, if_neg h2, Bool.false_eq_true, ↓reduceIte, Nat.reduceAdd, Nat.reduceMul, mj_tn0, mj_tn1, mj_tn2, mj_tn3]]
      exact ih (j + 1)  (by omega) (by omega) (by omega)
def s_X6_wrongDay (m : Nat) (p : Nat) (I : mj_I) : Int32 := s_X6_wd m I (m - 1) 1 
set_option maxHeartbeats 8000000 in
theorem x_X6_wrongDay (l : Launch) (b base : Nat) (D : va_G) (z : mj_K × (Int32 → Int32)) (N : Nat) (m : Nat) (p : Nat) (I : mj_I) (c d r : Nat) (hG : mj6_G0 m p I) : mj_Rn l b base D z mj_m_X6_wrongDay 0 [.ref 42, mj_mk] [] (mj_KS N, I, mj_PP c d r) (mj_E N (some (.int (s_X6_wrongDay m p I))) I (mj_PP c d r)) := by
  refine R_seg (φ := []) (pc' := 2) (L' := [.ref 42, .int 1]) (st' := []) (σ' := (mj_KS N, I, mj_PP c d r)) 2 rfl trivial ?_
  exact x_X6_wd l b base D z N m I c d r hG.1 hG.2.2.1 hG.2.2.2.2 (m - 1) 1  (by omega) (by omega) (by omega)
def s_X6_t1 (w : Int32) (p : Nat) (I : mj_I) : Nat → Nat → Int32 → Int32
  | 0, j, g => g
  | k + 1, j, g => if (I 55 (nI j) : Int32) = 6 then (s_X6_t1 w p I k (j + 1) (g ||| (1 <<< ((nI j) &&& 31)))) else (s_X6_t1 w p I k (j + 1) (g ||| 0))
set_option maxHeartbeats 8000000 in
theorem x_X6_t1 (l : Launch) (b base : Nat) (D : va_G) (z : mj_K × (Int32 → Int32)) (N : Nat) (w : Int32) (p : Nat) (I : mj_I) (c d r : Nat) (hp3 : p ≤ 3) (hp : I 42 6 = nI p) : ∀ (k j : Nat) (g : Int32), k = p - j → 0 ≤ j → j ≤ p + 1 → mj_Rn l b base D z mj_m_X6_tellRoute 12 [.ref 42, .int w, .int g, .int (nI j)] [] (mj_KS N, I, mj_PP c d r) (mj_E N (some (.int (s_X6_t1 w p I k j g))) I (mj_PP c d r)) := by
  intro k
  induction k with
  | zero =>
    intro j g hk hlo hj
    refine R_seg (φ := []) (pc' := 17) (L' := [.ref 42, .int w, .int g, .int (nI j)]) (st' := [.int (I 42 6), .int (nI j)]) (σ' := (mj_KS N, I, mj_PP c d r)) 3 rfl trivial ?_
    refine R_br (q := (nI j : Int32) < I 42 6) (t := 20) (f := 47) (rest := []) rfl (fun h1 => absurd h1 (by rw [hp]; exact nI_nlt (by omega) (by omega))) (fun h1 => ?_)
    refine R_seg (φ := []) (pc' := 48) (L' := [.ref 42, .int w, .int g, .int (nI j)]) (st' := [.int g]) (σ' := (mj_KS N, I, mj_PP c d r)) 1 rfl trivial ?_
    exact R_ri rfl rfl (mj_leaf (by simp only [s_X6_t1, Bool.false_eq_true, ↓reduceIte, Nat.reduceAdd, Nat.reduceMul, mj_tn0, mj_tn1, mj_tn2, mj_tn3]) (by simp only [s_X6_t1, Bool.false_eq_true, ↓reduceIte, Nat.reduceAdd, Nat.reduceMul, mj_tn0, mj_tn1, mj_tn2, mj_tn3]))
  | succ k ih =>
    intro j g hk hlo hj
    have hjm : j < p := by omega
    have hin3 : mj_in (nI j) 3 := mj6_in3 hjm hp3
    refine R_seg (φ := []) (pc' := 17) (L' := [.ref 42, .int w, .int g, .int (nI j)]) (st' := [.int (I 42 6), .int (nI j)]) (σ' := (mj_KS N, I, mj_PP c d r)) 3 rfl trivial ?_
    refine R_br (q := (nI j : Int32) < I 42 6) (t := 20) (f := 47) (rest := []) rfl (fun h1 => ?_) (fun h1 => absurd (by rw [hp]; exact nI_lt hjm (by omega)) h1)
    refine R_seg (φ := [mj_in (nI j) 3]) (pc' := 29) (L' := [.ref 42, .int w, .int g, .int (nI j)]) (st' := [.int 6, .int (I 55 (nI j)), .int g]) (σ' := (mj_KS N, I, mj_PP c d r)) 6 rfl ⟨hin3, trivial⟩ ?_
    refine R_br (q := (I 55 (nI j) : Int32) = 6) (t := 32) (f := 38) (rest := [.int g]) rfl (fun h2 => ?_) (fun h2 => ?_)
    · skip
      refine R_seg (φ := []) (pc' := 12) (L' := [.ref 42, .int w, .int (g ||| (1 <<< ((nI j) &&& 31))), .int ((nI j) + 1)]) (st' := []) (σ' := (mj_KS N, I, mj_PP c d r)) 8 rfl trivial ?_
      rw [nI_1 j]
      rw [show s_X6_t1 w p I (k + 1) j g = s_X6_t1 w p I k (j + 1) (g ||| (1 <<< ((nI j) &&& 31))) from by simp only [s_X6_t1, if_pos h2, Bool.false_eq_true, ↓reduceIte, Nat.reduceAdd, Nat.reduceMul, mj_tn0, mj_tn1, mj_tn2, mj_tn3]]
      exact ih (j + 1) (g ||| (1 <<< ((nI j) &&& 31))) (by omega) (by omega) (by omega)
    · skip
      refine R_seg (φ := []) (pc' := 12) (L' := [.ref 42, .int w, .int (g ||| 0), .int ((nI j) + 1)]) (st' := []) (σ' := (mj_KS N, I, mj_PP c d r)) 5 rfl trivial ?_
      rw [nI_1 j]
      rw [show s_X6_t1 w p I (k + 1) j g = s_X6_t1 w p I k (j + 1) (g ||| 0) from by simp only [s_X6_t1, if_neg h2, Bool.false_eq_true, ↓reduceIte, Nat.reduceAdd, Nat.reduceMul, mj_tn0, mj_tn1, mj_tn2, mj_tn3]]
      exact ih (j + 1) (g ||| 0) (by omega) (by omega) (by omega)
def s_X6_t2 (w : Int32) (m : Nat) (I : mj_I) : Nat → Nat → Int32 → Int32
  | 0, j, g => g
  | k + 1, j, g => s_X6_t2 w m I k (j + 1) (g + (s_X6_colds (I 54 ((nI j) - 1)) (I 54 (nI j)) I))
set_option maxHeartbeats 8000000 in
theorem x_X6_t2 (l : Launch) (b base : Nat) (D : va_G) (z : mj_K × (Int32 → Int32)) (N : Nat) (w : Int32) (m : Nat) (I : mj_I) (c d r : Nat) (hm : m ≤ 24) (hd : I 42 19 = nI m) (hw : ∀ j : Nat, j < m → mj_in (I 54 (nI j)) 6) : ∀ (k j : Nat) (g : Int32), k = m - j → 1 ≤ j → j ≤ m + 1 → mj_Rn l b base D z mj_m_X6_tellRoute 56 [.ref 42, .int w, .int g, .int (nI j)] [] (mj_KS N, I, mj_PP c d r) (mj_E N (some (.int (s_X6_t2 w m I k j g))) I (mj_PP c d r)) := by
  intro k
  induction k with
  | zero =>
    intro j g hk hlo hj
    refine R_seg (φ := []) (pc' := 61) (L' := [.ref 42, .int w, .int g, .int (nI j)]) (st' := [.int (I 42 19), .int (nI j)]) (σ' := (mj_KS N, I, mj_PP c d r)) 3 rfl trivial ?_
    refine R_br (q := (nI j : Int32) < I 42 19) (t := 64) (f := 91) (rest := []) rfl (fun h1 => absurd h1 (by rw [hd]; exact nI_nlt (by omega) (by omega))) (fun h1 => ?_)
    refine R_seg (φ := []) (pc' := 92) (L' := [.ref 42, .int w, .int g, .int (nI j)]) (st' := [.int g]) (σ' := (mj_KS N, I, mj_PP c d r)) 1 rfl trivial ?_
    exact R_ri rfl rfl (mj_leaf (by simp only [s_X6_t2, Bool.false_eq_true, ↓reduceIte, Nat.reduceAdd, Nat.reduceMul, mj_tn0, mj_tn1, mj_tn2, mj_tn3]) (by simp only [s_X6_t2, Bool.false_eq_true, ↓reduceIte, Nat.reduceAdd, Nat.reduceMul, mj_tn0, mj_tn1, mj_tn2, mj_tn3]))
  | succ k ih =>
    intro j g hk hlo hj
    have hjm : j < m := by omega
    have hj1 : 1 ≤ j := by omega
    have hin : mj_in (nI j) 24 := mj_in_nI (by omega) (by omega)
    have hin1 : mj_in (nI j - 1) 24 := by rw [mj_nIm1 hj1]; exact mj_in_nI (by omega) (by omega)
    have hpr : mj_in (I 54 (nI j - 1)) 6 := by rw [mj_nIm1 hj1]; exact hw (j - 1) (by omega)
    have hin6 := hw j hjm
    refine R_seg (φ := []) (pc' := 61) (L' := [.ref 42, .int w, .int g, .int (nI j)]) (st' := [.int (I 42 19), .int (nI j)]) (σ' := (mj_KS N, I, mj_PP c d r)) 3 rfl trivial ?_
    refine R_br (q := (nI j : Int32) < I 42 19) (t := 64) (f := 91) (rest := []) rfl (fun h1 => ?_) (fun h1 => absurd (by rw [hd]; exact nI_lt hjm (by omega)) h1)
    refine R_seg (φ := [mj_in ((nI j) - 1) 24, mj_in (nI j) 24]) (pc' := 80) (L' := [.ref 42, .int w, .int g, .int (nI j)]) (st' := [.int (I 54 (nI j)), .int (I 54 ((nI j) - 1)), .ref 42, .int g]) (σ' := (mj_KS N, I, mj_PP c d r)) 12 rfl ⟨hin1, hin, trivial⟩ ?_
    refine R_ce (idx := 171) (mid := 114) (kind := 0) (N := N) (M' := mj_m_X6_colds) (As := [.ref 42, .int (I 54 ((nI j) - 1)), .int (I 54 (nI j))]) (rest := [.int g]) (I := I) (P := mj_PP c d r) (I' := I) (P' := mj_PP c d r) (v := some (.int (s_X6_colds (I 54 ((nI j) - 1)) (I 54 (nI j)) I))) rfl rfl rfl mj_mc114 mj_dc114 rfl rfl rfl rfl rfl rfl (x_X6_colds l b base D z N (I 54 ((nI j) - 1)) (I 54 (nI j)) I c d r (hpr) (hin6)) ?_
    refine R_seg (φ := []) (pc' := 56) (L' := [.ref 42, .int w, .int (g + (s_X6_colds (I 54 ((nI j) - 1)) (I 54 (nI j)) I)), .int ((nI j) + 1)]) (st' := []) (σ' := (mj_KS N, I, mj_PP c d r)) 4 rfl trivial ?_
    rw [nI_1 j]
    rw [show s_X6_t2 w m I (k + 1) j g = s_X6_t2 w m I k (j + 1) (g + (s_X6_colds (I 54 ((nI j) - 1)) (I 54 (nI j)) I)) from by simp only [s_X6_t2, Bool.false_eq_true, ↓reduceIte, Nat.reduceAdd, Nat.reduceMul, mj_tn0, mj_tn1, mj_tn2, mj_tn3]]
    exact ih (j + 1) (g + (s_X6_colds (I 54 ((nI j) - 1)) (I 54 (nI j)) I)) (by omega) (by omega) (by omega)
theorem mj6_plG {q : Int32} {m p : Nat} {I : mj_I} (h : ¬ s_X6_isPlant q I = 0) (hG : mj6_G m p I) : mj_in q 3 := mj6_pl h (by rw [hG.2.2.2.1, nI_toInt (by have := hG.2.1; omega)]; have := hG.2.1; omega)
def s_X6_tellRoute (w : Int32) (m : Nat) (p : Nat) (I : mj_I) : Int32 × mj_I := if (w : Int32) = 0 then (s_X6_t1 w p (s_X6_goRoute m p I) p 0 0, (s_X6_goRoute m p I)) else (if (w : Int32) = 2 then (s_X6_t2 w m (s_X6_goRoute m p I) (m - 1) 1 0, (s_X6_goRoute m p I)) else (if ((s_X6_isPlant (w - w / 10 * 10) (s_X6_goRoute m p I)) : Int32) = 0 then ((-9), (s_X6_goRoute m p I)) else (if (w : Int32) < 20 then ((s_X6_goRoute m p I) 56 (w - w / 10 * 10), (s_X6_goRoute m p I)) else (((s_X6_goRoute m p I) 55 (w - w / 10 * 10)) / 2, (s_X6_goRoute m p I)))))
set_option maxHeartbeats 8000000 in
theorem x_X6_tellRoute (l : Launch) (b base : Nat) (D : va_G) (z : mj_K × (Int32 → Int32)) (N : Nat) (w : Int32) (m : Nat) (p : Nat) (I : mj_I) (c d r : Nat) (hG : mj6_G0 m p I) : mj_Rn l b base D z mj_m_X6_tellRoute 0 [.ref 42, .int w, mj_mk, mj_mk] [] (mj_KS N, I, mj_PP c d r) (mj_E N (some (.int (s_X6_tellRoute w m p I).1)) (s_X6_tellRoute w m p I).2 (mj_PP c d r)) := by
  refine R_seg (φ := []) (pc' := 1) (L' := [.ref 42, .int w, mj_mk, mj_mk]) (st' := [.ref 42]) (σ' := (mj_KS N, I, mj_PP c d r)) 1 rfl trivial ?_
  refine R_ce (idx := 168) (mid := 118) (kind := 0) (N := N) (M' := mj_m_X6_goRoute) (As := [.ref 42]) (rest := []) (I := I) (P := mj_PP c d r) (I' := (s_X6_goRoute m p I)) (P' := mj_PP c d r) (v := none) rfl rfl rfl mj_mc118 mj_dc118 rfl rfl rfl rfl rfl rfl (x_X6_goRoute l b base D z N m p  I c d r hG) ?_
  refine R_seg (φ := []) (pc' := 7) (L' := [.ref 42, .int w, .int 0, mj_mk]) (st' := [.int w]) (σ' := (mj_KS N, (s_X6_goRoute m p I), mj_PP c d r)) 3 rfl trivial ?_
  refine R_br (q := (w : Int32) = 0) (t := 10) (f := 49) (rest := []) rfl (fun h1 => ?_) (fun h1 => ?_)
  · skip
    refine R_seg (φ := []) (pc' := 12) (L' := [.ref 42, .int w, .int 0, .int 0]) (st' := []) (σ' := (mj_KS N, (s_X6_goRoute m p I), mj_PP c d r)) 2 rfl trivial ?_
    simp only [s_X6_tellRoute, if_pos h1, Bool.false_eq_true, ↓reduceIte, Nat.reduceAdd, Nat.reduceMul, mj_tn0, mj_tn1, mj_tn2, mj_tn3]
    exact x_X6_t1 l b base D z N w p (s_X6_goRoute m p I) c d r (mj6_gr_G m p I hG).2.1 (mj6_gr_G m p I hG).2.2.2.1 p 0 0 (by omega) (by omega) (by omega)
  · skip
    refine R_seg (φ := []) (pc' := 51) (L' := [.ref 42, .int w, .int 0, mj_mk]) (st' := [.int 2, .int w]) (σ' := (mj_KS N, (s_X6_goRoute m p I), mj_PP c d r)) 2 rfl trivial ?_
    refine R_br (q := (w : Int32) = 2) (t := 54) (f := 93) (rest := []) rfl (fun h2 => ?_) (fun h2 => ?_)
    · skip
      refine R_seg (φ := []) (pc' := 56) (L' := [.ref 42, .int w, .int 0, .int 1]) (st' := []) (σ' := (mj_KS N, (s_X6_goRoute m p I), mj_PP c d r)) 2 rfl trivial ?_
      simp only [s_X6_tellRoute, if_neg h1, if_pos h2, Bool.false_eq_true, ↓reduceIte, Nat.reduceAdd, Nat.reduceMul, mj_tn0, mj_tn1, mj_tn2, mj_tn3]
      exact x_X6_t2 l b base D z N w m (s_X6_goRoute m p I) c d r (mj6_gr_G m p I hG).1 (mj6_gr_G m p I hG).2.2.1 (mj6_gr_G m p I hG).2.2.2.2.1 (m - 1) 1 0 (by omega) (by omega) (by omega)
    · skip
      refine R_seg (φ := [¬ (10 : Int32) = 0]) (pc' := 100) (L' := [.ref 42, .int w, .int 0, .int (w - w / 10 * 10)]) (st' := [.int (w - w / 10 * 10), .ref 42]) (σ' := (mj_KS N, (s_X6_goRoute m p I), mj_PP c d r)) 6 rfl ⟨by decide, trivial⟩ ?_
      refine R_ce (idx := 140) (mid := 100) (kind := 0) (N := N) (M' := mj_m_X6_isPlant) (As := [.ref 42, .int (w - w / 10 * 10)]) (rest := []) (I := (s_X6_goRoute m p I)) (P := mj_PP c d r) (I' := (s_X6_goRoute m p I)) (P' := mj_PP c d r) (v := some (.int (s_X6_isPlant (w - w / 10 * 10) (s_X6_goRoute m p I)))) rfl rfl rfl mj_mc100 mj_dc100 rfl rfl rfl rfl rfl rfl (x_X6_isPlant l b base D z N (w - w / 10 * 10) (s_X6_goRoute m p I) c d r) ?_
      refine R_seg (φ := []) (pc' := 103) (L' := [.ref 42, .int w, .int 0, .int (w - w / 10 * 10)]) (st' := [.int (s_X6_isPlant (w - w / 10 * 10) (s_X6_goRoute m p I))]) (σ' := (mj_KS N, (s_X6_goRoute m p I), mj_PP c d r)) 0 rfl trivial ?_
      refine R_br (q := ((s_X6_isPlant (w - w / 10 * 10) (s_X6_goRoute m p I)) : Int32) = 0) (t := 106) (f := 109) (rest := []) rfl (fun h3 => ?_) (fun h3 => ?_)
      · skip
        refine R_seg (φ := []) (pc' := 108) (L' := [.ref 42, .int w, .int 0, .int (w - w / 10 * 10)]) (st' := [.int (-9)]) (σ' := (mj_KS N, (s_X6_goRoute m p I), mj_PP c d r)) 1 rfl trivial ?_
        exact R_ri rfl rfl (mj_leaf (by simp only [s_X6_tellRoute, if_neg h1, if_neg h2, if_pos h3, Bool.false_eq_true, ↓reduceIte, Nat.reduceAdd, Nat.reduceMul, mj_tn0, mj_tn1, mj_tn2, mj_tn3]) (by simp only [s_X6_tellRoute, if_neg h1, if_neg h2, if_pos h3, Bool.false_eq_true, ↓reduceIte, Nat.reduceAdd, Nat.reduceMul, mj_tn0, mj_tn1, mj_tn2, mj_tn3]))
      · skip
        refine R_seg (φ := []) (pc' := 112) (L' := [.ref 42, .int w, .int 0, .int (w - w / 10 * 10)]) (st' := [.int 20, .int w]) (σ' := (mj_KS N, (s_X6_goRoute m p I), mj_PP c d r)) 2 rfl trivial ?_
        refine R_br (q := (w : Int32) < 20) (t := 115) (f := 124) (rest := []) rfl (fun h4 => ?_) (fun h4 => ?_)
        · skip
          refine R_seg (φ := [mj_in (w - w / 10 * 10) 3]) (pc' := 132) (L' := [.ref 42, .int w, .int 0, .int (w - w / 10 * 10)]) (st' := [.int ((s_X6_goRoute m p I) 56 (w - w / 10 * 10))]) (σ' := (mj_KS N, (s_X6_goRoute m p I), mj_PP c d r)) 5 rfl ⟨(mj6_plG (by assumption) (mj6_gr_G m p I hG)), trivial⟩ ?_
          exact R_ri rfl rfl (mj_leaf (by simp only [s_X6_tellRoute, if_neg h1, if_neg h2, if_neg h3, if_pos h4, Bool.false_eq_true, ↓reduceIte, Nat.reduceAdd, Nat.reduceMul, mj_tn0, mj_tn1, mj_tn2, mj_tn3]) (by simp only [s_X6_tellRoute, if_neg h1, if_neg h2, if_neg h3, if_pos h4, Bool.false_eq_true, ↓reduceIte, Nat.reduceAdd, Nat.reduceMul, mj_tn0, mj_tn1, mj_tn2, mj_tn3]))
        · skip
          refine R_seg (φ := [mj_in (w - w / 10 * 10) 3, ¬ (2 : Int32) = 0]) (pc' := 132) (L' := [.ref 42, .int w, .int 0, .int (w - w / 10 * 10)]) (st' := [.int (((s_X6_goRoute m p I) 55 (w - w / 10 * 10)) / 2)]) (σ' := (mj_KS N, (s_X6_goRoute m p I), mj_PP c d r)) 6 rfl ⟨(mj6_plG (by assumption) (mj6_gr_G m p I hG)), by decide, trivial⟩ ?_
          exact R_ri rfl rfl (mj_leaf (by simp only [s_X6_tellRoute, if_neg h1, if_neg h2, if_neg h3, if_neg h4, Bool.false_eq_true, ↓reduceIte, Nat.reduceAdd, Nat.reduceMul, mj_tn0, mj_tn1, mj_tn2, mj_tn3]) (by simp only [s_X6_tellRoute, if_neg h1, if_neg h2, if_neg h3, if_neg h4, Bool.false_eq_true, ↓reduceIte, Nat.reduceAdd, Nat.reduceMul, mj_tn0, mj_tn1, mj_tn2, mj_tn3]))
theorem mj6_c60j {u i : Int32} {j m : Nat} (hu : mj_in u 4) (hi : 0 ≤ i.toInt ∧ i.toInt + (m : Int) ≤ 60) (hj : j < m) : mj_in (60 * u + i + nI j) 240 := by
  have a := mj_inb hu
  have e := mj_t60m u hu
  have e1 : (nI j).toInt = (j : Int) := nI_toInt (by omega)
  have e2 : (60 * u + i).toInt = 60 * u.toInt + i.toInt := by rw [mj_iadd (by omega) (by omega), e]
  have e3 : (60 * u + i + nI j).toInt = 60 * u.toInt + i.toInt + (j : Int) := by rw [mj_iadd (by omega) (by omega), e2, e1]
  exact mj_mkin ⟨by omega, by omega⟩
theorem mj6_ag0 {k a i n : Int32} {I : mj_I} (h : s_X6_against k a i n I = 0) (hl : 0 ≤ (I 44 k).toInt ∧ (I 44 k).toInt ≤ 60) : 0 ≤ n.toInt ∧ 0 ≤ i.toInt ∧ i.toInt + n.toInt ≤ (I 44 k).toInt := by
  revert h
  unfold s_X6_against
  repeat' split
  all_goals intro h
  all_goals first
    | exact absurd h (by decide)
    | skip
  next h1 h2 h3 h4 =>
    have a1 := mj_i0 (by assumption : ¬ n < 0)
    have a2 := mj_i0 (by assumption : ¬ i < 0)
    have a3 := mj_iN h3
    have a4 := mj_iN h4
    rw [mj_isub (by omega) (by omega)] at a4
    omega
theorem mj6_agc {k a i n : Int32} {I : mj_I} (h : ¬ s_X6_against k a i n I = 0) : ¬ (-10) - s_X6_against k a i n I = 0 := by
  revert h
  unfold s_X6_against
  repeat' split
  all_goals intro h
  all_goals first
    | decide
    | exact absurd rfl h
def s_X6_lr (u : Int32) (a : Int32) (i : Int32) (m : Nat) (f : Int32) : Nat → Nat → mj_I → Int32 × mj_I
  | 0, j, I => (0, (mj_upI I 42 19 (nI m)))
  | k + 1, j, I => if ((s_X6_isStreet ((mj_upI I 54 (nI j) (I 45 (((60 * u) + i) + (nI j)))) 54 (nI j)) (mj_upI I 54 (nI j) (I 45 (((60 * u) + i) + (nI j))))) : Int32) = 0 then ((-1), (mj_upI I 54 (nI j) (I 45 (((60 * u) + i) + (nI j))))) else (s_X6_lr u a i m f k (j + 1)  (mj_upI I 54 (nI j) (I 45 (((60 * u) + i) + (nI j)))))
set_option maxHeartbeats 8000000 in
theorem x_X6_lr (l : Launch) (b base : Nat) (D : va_G) (z : mj_K × (Int32 → Int32)) (N : Nat) (u : Int32) (a : Int32) (i : Int32) (m : Nat) (f : Int32) (c d r : Nat) (hm : m ≤ 24) (hu : mj_in u 4) (hi : 0 ≤ i.toInt ∧ i.toInt + (m : Int) ≤ 60) : ∀ (k j : Nat) (I : mj_I), k = m - j → 0 ≤ j → j ≤ m + 1 → mj_Rn l b base D z mj_m_X6_layRoute 36 [.ref 42, .int u, .int a, .int i, .int (nI m), .int f, .int (nI j)] [] (mj_KS N, I, mj_PP c d r) (mj_E N (some (.int (s_X6_lr u a i m f k j  I).1)) (s_X6_lr u a i m f k j  I).2 (mj_PP c d r)) := by
  intro k
  induction k with
  | zero =>
    intro j I hk hlo hj
    refine R_seg (φ := []) (pc' := 40) (L' := [.ref 42, .int u, .int a, .int i, .int (nI m), .int f, .int (nI j)]) (st' := [.int (nI m), .int (nI j)]) (σ' := (mj_KS N, I, mj_PP c d r)) 2 rfl trivial ?_
    refine R_br (q := (nI j : Int32) < nI m) (t := 43) (f := 86) (rest := []) rfl (fun h1 => absurd h1 (by exact nI_nlt (by omega) (by omega))) (fun h1 => ?_)
    refine R_seg (φ := []) (pc' := 93) (L' := [.ref 42, .int u, .int a, .int i, .int (nI m), .int f, .int (nI j)]) (st' := [.int 0]) (σ' := (mj_KS N, (mj_upI I 42 19 (nI m)), mj_PP c d r)) 4 rfl trivial ?_
    exact R_ri rfl rfl (mj_leaf (by simp only [s_X6_lr, Bool.false_eq_true, ↓reduceIte, Nat.reduceAdd, Nat.reduceMul, mj_tn0, mj_tn1, mj_tn2, mj_tn3]) (by simp only [s_X6_lr, Bool.false_eq_true, ↓reduceIte, Nat.reduceAdd, Nat.reduceMul, mj_tn0, mj_tn1, mj_tn2, mj_tn3]))
  | succ k ih =>
    intro j I hk hlo hj
    have hjm : j < m := by omega
    have hin : mj_in (nI j) 24 := mj_in_nI (by omega) (by omega)
    have hin2 := mj6_c60j hu hi hjm
    refine R_seg (φ := []) (pc' := 40) (L' := [.ref 42, .int u, .int a, .int i, .int (nI m), .int f, .int (nI j)]) (st' := [.int (nI m), .int (nI j)]) (σ' := (mj_KS N, I, mj_PP c d r)) 2 rfl trivial ?_
    refine R_br (q := (nI j : Int32) < nI m) (t := 43) (f := 86) (rest := []) rfl (fun h1 => ?_) (fun h1 => absurd (by exact nI_lt hjm (by omega)) h1)
    refine R_seg (φ := [mj_in (((60 * u) + i) + (nI j)) 240, mj_in (nI j) 24, mj_in (nI j) 24]) (pc' := 72) (L' := [.ref 42, .int u, .int a, .int i, .int (nI m), .int f, .int (nI j)]) (st' := [.int ((mj_upI I 54 (nI j) (I 45 (((60 * u) + i) + (nI j)))) 54 (nI j)), .ref 42]) (σ' := (mj_KS N, (mj_upI I 54 (nI j) (I 45 (((60 * u) + i) + (nI j)))), mj_PP c d r)) 19 rfl ⟨hin2, hin, hin, trivial⟩ ?_
    refine R_ce (idx := 137) (mid := 99) (kind := 0) (N := N) (M' := mj_m_X6_isStreet) (As := [.ref 42, .int ((mj_upI I 54 (nI j) (I 45 (((60 * u) + i) + (nI j)))) 54 (nI j))]) (rest := []) (I := (mj_upI I 54 (nI j) (I 45 (((60 * u) + i) + (nI j))))) (P := mj_PP c d r) (I' := (mj_upI I 54 (nI j) (I 45 (((60 * u) + i) + (nI j))))) (P' := mj_PP c d r) (v := some (.int (s_X6_isStreet ((mj_upI I 54 (nI j) (I 45 (((60 * u) + i) + (nI j)))) 54 (nI j)) (mj_upI I 54 (nI j) (I 45 (((60 * u) + i) + (nI j))))))) rfl rfl rfl mj_mc99 mj_dc99 rfl rfl rfl rfl rfl rfl (x_X6_isStreet l b base D z N ((mj_upI I 54 (nI j) (I 45 (((60 * u) + i) + (nI j)))) 54 (nI j)) (mj_upI I 54 (nI j) (I 45 (((60 * u) + i) + (nI j)))) c d r) ?_
    refine R_seg (φ := []) (pc' := 75) (L' := [.ref 42, .int u, .int a, .int i, .int (nI m), .int f, .int (nI j)]) (st' := [.int (s_X6_isStreet ((mj_upI I 54 (nI j) (I 45 (((60 * u) + i) + (nI j)))) 54 (nI j)) (mj_upI I 54 (nI j) (I 45 (((60 * u) + i) + (nI j)))))]) (σ' := (mj_KS N, (mj_upI I 54 (nI j) (I 45 (((60 * u) + i) + (nI j)))), mj_PP c d r)) 0 rfl trivial ?_
    refine R_br (q := ((s_X6_isStreet ((mj_upI I 54 (nI j) (I 45 (((60 * u) + i) + (nI j)))) 54 (nI j)) (mj_upI I 54 (nI j) (I 45 (((60 * u) + i) + (nI j))))) : Int32) = 0) (t := 78) (f := 80) (rest := []) rfl (fun h2 => ?_) (fun h2 => ?_)
    · skip
      refine R_seg (φ := []) (pc' := 79) (L' := [.ref 42, .int u, .int a, .int i, .int (nI m), .int f, .int (nI j)]) (st' := [.int (-1)]) (σ' := (mj_KS N, (mj_upI I 54 (nI j) (I 45 (((60 * u) + i) + (nI j)))), mj_PP c d r)) 1 rfl trivial ?_
      exact R_ri rfl rfl (mj_leaf (by simp only [s_X6_lr, if_pos h2, Bool.false_eq_true, ↓reduceIte, Nat.reduceAdd, Nat.reduceMul, mj_tn0, mj_tn1, mj_tn2, mj_tn3]) (by simp only [s_X6_lr, if_pos h2, Bool.false_eq_true, ↓reduceIte, Nat.reduceAdd, Nat.reduceMul, mj_tn0, mj_tn1, mj_tn2, mj_tn3]))
    · skip
      refine R_seg (φ := []) (pc' := 36) (L' := [.ref 42, .int u, .int a, .int i, .int (nI m), .int f, .int ((nI j) + 1)]) (st' := []) (σ' := (mj_KS N, (mj_upI I 54 (nI j) (I 45 (((60 * u) + i) + (nI j)))), mj_PP c d r)) 2 rfl trivial ?_
      rw [nI_1 j]
      rw [show s_X6_lr u a i m f (k + 1) j  I = s_X6_lr u a i m f k (j + 1)  (mj_upI I 54 (nI j) (I 45 (((60 * u) + i) + (nI j)))) from by simp only [s_X6_lr, if_neg h2, Bool.false_eq_true, ↓reduceIte, Nat.reduceAdd, Nat.reduceMul, mj_tn0, mj_tn1, mj_tn2, mj_tn3]]
      exact ih (j + 1)  (mj_upI I 54 (nI j) (I 45 (((60 * u) + i) + (nI j)))) (by omega) (by omega) (by omega)
theorem mj6_hi {u a i : Int32} {m : Nat} {I : mj_I} (h : s_X6_against u a i (nI m) I = 0) (hl : 0 ≤ (I 44 u).toInt ∧ (I 44 u).toInt ≤ 60) (hm : m ≤ 24) : 0 ≤ i.toInt ∧ i.toInt + (m : Int) ≤ 60 := by
  have := mj6_ag0 h hl
  rw [nI_toInt (by omega)] at this
  omega
def s_X6_layRoute (u : Int32) (a : Int32) (i : Int32) (m : Nat) (I : mj_I) : Int32 × mj_I := if ((s_X6_against u a i (nI m) I) : Int32) = 0 then (if (I 42 5 : Int32) = 0 then ((-3), I) else ((s_X6_lr u a i m (s_X6_against u a i (nI m) I) m 0  I).1, (s_X6_lr u a i m (s_X6_against u a i (nI m) I) m 0  I).2)) else ((s_X6_fails (s_X6_against u a i (nI m) I) I).1, (s_X6_fails (s_X6_against u a i (nI m) I) I).2)
set_option maxHeartbeats 8000000 in
theorem x_X6_layRoute (l : Launch) (b base : Nat) (D : va_G) (z : mj_K × (Int32 → Int32)) (N : Nat) (u : Int32) (a : Int32) (i : Int32) (m : Nat) (I : mj_I) (c d r : Nat) (hm : m ≤ 24) (hL : ∀ k, mj_in k 4 → 0 ≤ (I 44 k).toInt ∧ (I 44 k).toInt ≤ 60) (hu : mj_in u 4) : mj_Rn l b base D z mj_m_X6_layRoute 0 [.ref 42, .int u, .int a, .int i, .int (nI m), mj_mk, mj_mk] [] (mj_KS N, I, mj_PP c d r) (mj_E N (some (.int (s_X6_layRoute u a i m I).1)) (s_X6_layRoute u a i m I).2 (mj_PP c d r)) := by
  refine R_seg (φ := []) (pc' := 6) (L' := [.ref 42, .int u, .int a, .int i, .int (nI m), mj_mk, mj_mk]) (st' := [.int (nI m), .int i, .int a, .int u, .ref 42]) (σ' := (mj_KS N, I, mj_PP c d r)) 5 rfl trivial ?_
  refine R_ce (idx := 96) (mid := 98) (kind := 0) (N := N) (M' := mj_m_X6_against) (As := [.ref 42, .int u, .int a, .int i, .int (nI m)]) (rest := []) (I := I) (P := mj_PP c d r) (I' := I) (P' := mj_PP c d r) (v := some (.int (s_X6_against u a i (nI m) I))) rfl rfl rfl mj_mc98 mj_dc98 rfl rfl rfl rfl rfl rfl (x_X6_against l b base D z N u a i (nI m) I c d r hu) ?_
  refine R_seg (φ := []) (pc' := 13) (L' := [.ref 42, .int u, .int a, .int i, .int (nI m), .int (s_X6_against u a i (nI m) I), mj_mk]) (st' := [.int (s_X6_against u a i (nI m) I)]) (σ' := (mj_KS N, I, mj_PP c d r)) 2 rfl trivial ?_
  refine R_br (q := ((s_X6_against u a i (nI m) I) : Int32) = 0) (t := 23) (f := 16) (rest := []) rfl (fun h1 => ?_) (fun h1 => ?_)
  · skip
    refine R_seg (φ := []) (pc' := 27) (L' := [.ref 42, .int u, .int a, .int i, .int (nI m), .int (s_X6_against u a i (nI m) I), mj_mk]) (st' := [.int (I 42 5)]) (σ' := (mj_KS N, I, mj_PP c d r)) 2 rfl trivial ?_
    refine R_br (q := (I 42 5 : Int32) = 0) (t := 30) (f := 33) (rest := []) rfl (fun h2 => ?_) (fun h2 => ?_)
    · skip
      refine R_seg (φ := []) (pc' := 32) (L' := [.ref 42, .int u, .int a, .int i, .int (nI m), .int (s_X6_against u a i (nI m) I), mj_mk]) (st' := [.int (-3)]) (σ' := (mj_KS N, I, mj_PP c d r)) 1 rfl trivial ?_
      exact R_ri rfl rfl (mj_leaf (by simp only [s_X6_layRoute, if_pos h1, if_pos h2, Bool.false_eq_true, ↓reduceIte, Nat.reduceAdd, Nat.reduceMul, mj_tn0, mj_tn1, mj_tn2, mj_tn3]) (by simp only [s_X6_layRoute, if_pos h1, if_pos h2, Bool.false_eq_true, ↓reduceIte, Nat.reduceAdd, Nat.reduceMul, mj_tn0, mj_tn1, mj_tn2, mj_tn3]))
    · skip
      refine R_seg (φ := []) (pc' := 36) (L' := [.ref 42, .int u, .int a, .int i, .int (nI m), .int (s_X6_against u a i (nI m) I), .int 0]) (st' := []) (σ' := (mj_KS N, I, mj_PP c d r)) 2 rfl trivial ?_
      simp only [s_X6_layRoute, if_pos h1, if_neg h2, Bool.false_eq_true, ↓reduceIte, Nat.reduceAdd, Nat.reduceMul, mj_tn0, mj_tn1, mj_tn2, mj_tn3]
      exact x_X6_lr l b base D z N u a i m (s_X6_against u a i (nI m) I) c d r hm hu (mj6_hi h1 (hL _ hu) hm) m 0  I (by omega) (by omega) (by omega)
  · skip
    refine R_seg (φ := []) (pc' := 19) (L' := [.ref 42, .int u, .int a, .int i, .int (nI m), .int (s_X6_against u a i (nI m) I), mj_mk]) (st' := [.int (s_X6_against u a i (nI m) I), .ref 42]) (σ' := (mj_KS N, I, mj_PP c d r)) 2 rfl trivial ?_
    refine R_ce (idx := 100) (mid := 93) (kind := 0) (N := N) (M' := mj_m_X6_fails) (As := [.ref 42, .int (s_X6_against u a i (nI m) I)]) (rest := []) (I := I) (P := mj_PP c d r) (I' := (s_X6_fails (s_X6_against u a i (nI m) I) I).2) (P' := mj_PP c d r) (v := some (.int ((s_X6_fails (s_X6_against u a i (nI m) I) I).1))) rfl rfl rfl mj_mc93 mj_dc93 rfl rfl rfl rfl rfl rfl (x_X6_fails l b base D z N (s_X6_against u a i (nI m) I) I c d r) ?_
    refine R_seg (φ := []) (pc' := 22) (L' := [.ref 42, .int u, .int a, .int i, .int (nI m), .int (s_X6_against u a i (nI m) I), mj_mk]) (st' := [.int ((s_X6_fails (s_X6_against u a i (nI m) I) I).1)]) (σ' := (mj_KS N, (s_X6_fails (s_X6_against u a i (nI m) I) I).2, mj_PP c d r)) 0 rfl trivial ?_
    exact R_ri rfl rfl (mj_leaf (by simp only [s_X6_layRoute, if_neg h1, Bool.false_eq_true, ↓reduceIte, Nat.reduceAdd, Nat.reduceMul, mj_tn0, mj_tn1, mj_tn2, mj_tn3]) (by simp only [s_X6_layRoute, if_neg h1, Bool.false_eq_true, ↓reduceIte, Nat.reduceAdd, Nat.reduceMul, mj_tn0, mj_tn1, mj_tn2, mj_tn3]))
theorem mj6_lr_ne (u a i : Int32) (m : Nat) (f : Int32) (x : Nat) (hx : x ≠ 54) (h42 : x ≠ 42) : ∀ (k j : Nat) (I : mj_I), (s_X6_lr u a i m f k j I).2 x = I x := by
  intro k
  induction k with
  | zero => intro j I; exact mj_upI_ne h42
  | succ k ih =>
    intro j I
    rw [s_X6_lr]
    split
    · exact mj_upI_ne hx
    · rw [ih, mj_upI_ne hx]
theorem mj6_lr_42 (u a i : Int32) (m : Nat) (f : Int32) (y : Int32) (hy : y ≠ 19) : ∀ (k j : Nat) (I : mj_I), (s_X6_lr u a i m f k j I).2 42 y = I 42 y := by
  intro k
  induction k with
  | zero => intro j I; show mj_upI I 42 19 (nI m) 42 y = I 42 y; rw [mj_upI_eq, if_neg hy]
  | succ k ih =>
    intro j I
    rw [s_X6_lr]
    split
    · rfl
    · rw [ih, mj_upI_ne (by decide)]
theorem mj6_lr_G (u a i : Int32) (m : Nat) (f : Int32) : ∀ (k j : Nat) (I : mj_I), k + j = m → m ≤ 24 → (I 42 5).toInt ≤ 6 → (∀ t : Nat, t < j → mj_in (I 54 (nI t)) 6) → (s_X6_lr u a i m f k j I).1 = 0 → (s_X6_lr u a i m f k j I).2 42 19 = nI m ∧ ∀ t : Nat, t < m → mj_in ((s_X6_lr u a i m f k j I).2 54 (nI t)) 6 := by
  intro k
  induction k with
  | zero =>
    intro j I hk hm hS h _
    show mj_upI I 42 19 (nI m) 42 19 = nI m ∧ ∀ t : Nat, t < m → mj_in (mj_upI I 42 19 (nI m) 54 (nI t)) 6
    rw [mj_upI_eq, if_pos rfl, mj_upI_ne (by decide)]
    exact ⟨rfl, fun t ht => h t (by omega)⟩
  | succ k ih =>
    intro j I hk hm hS h
    rw [s_X6_lr]
    split
    · intro h0; exact absurd (show (-1 : Int32) = 0 from h0) (by decide)
    · next h1 =>
      refine ih (j + 1) _ (by omega) hm (by rw [mj_upI_ne (by decide)]; exact hS) (fun t ht => ?_)
      rw [mj_upI_eq]
      by_cases hh : nI t = nI j
      · rw [if_pos hh]; rw [mj_upI_eq, if_pos rfl] at h1; exact mj6_st h1 (by rw [mj_upI_ne (by decide)]; exact hS)
      · rw [if_neg hh]
        refine h t ?_
        rcases Nat.lt_or_ge t j with q | q
        · exact q
        · exact absurd (congrArg nI (show t = j by omega)) hh
theorem mj6_lay_G {u a i : Int32} {m p : Nat} {I : mj_I} (hm : m ≤ 24) (hS : (I 42 5).toInt ≤ 6) (hp3 : p ≤ 3) (hp : I 42 6 = nI p) (h : (s_X6_layRoute u a i m I).1 = 0) : mj6_G0 m p (s_X6_layRoute u a i m I).2 := by
  revert h
  unfold s_X6_layRoute
  split
  · split
    · intro h; exact absurd (show (-3 : Int32) = 0 from h) (by decide)
    · intro h
      have q := mj6_lr_G u a i m _ m 0 I (by omega) hm hS (fun t ht => absurd ht (by omega)) h
      exact ⟨hm, hp3, q.1, (mj6_lr_42 u a i m _ 6 (by decide) m 0 I).trans hp, q.2⟩
  · next h1 =>
    intro h
    exact absurd h (mj6_agc h1)
