/-! the reference: odds, sheets, copies -/
def mj6_PR (a : Nat) (K : Int32) (I : mj_I) : Prop := ∀ x : Nat, x < 42 → ¬ I a (nI x) = 0 → mj6_fok K (nI x / 6)
theorem mj6_ixn : ∀ x : Nat, x < 7 → ∀ y : Nat, y < 6 → (0 ≤ (6 * nI x + nI y).toInt ∧ (6 * nI x + nI y).toInt < ((42 : Nat) : Int)) ∧ (6 * nI x + nI y) / 6 = nI x := by decide
theorem mj6_ix {g s : Int32} (hg : mj_in g 7) (hs : mj_in s 6) : mj_in (6 * g + s) 42 ∧ (6 * g + s) / 6 = g := by
  obtain ⟨x, hx, rfl⟩ := mj6_nat hg (by decide)
  obtain ⟨y, hy, rfl⟩ := mj6_nat hs (by decide)
  exact ⟨mj_mkin (mj6_ixn x hx y hy).1, (mj6_ixn x hx y hy).2⟩
theorem mj6_m6n : ∀ y : Nat, y < 42 → 0 ≤ (nI y - nI y / 6 * 6).toInt ∧ (nI y - nI y / 6 * 6).toInt < ((6 : Nat) : Int) := by decide
theorem mj6_m6 {y : Nat} (h : y < 42) : mj_in (nI y - nI y / 6 * 6) 6 := mj_mkin (mj6_m6n y h)
theorem mj6_d6n : ∀ y : Nat, y < 42 → 0 ≤ (nI y / 6).toInt ∧ (nI y / 6).toInt < ((7 : Nat) : Int) := by decide
theorem mj6_d6 {y : Nat} (h : y < 42) : mj_in (nI y / 6) 7 := mj_mkin (mj6_d6n y h)
def mj6_O (m : Nat) (q : Int32) (I : mj_I) : Prop := I 42 5 = nI m ∧ mj6_PR 61 (I 48 q) I ∧ mj6_PR 62 (I 48 q) I
theorem mj6_pos {x : Int32} (h : 0 < x) : ¬ x = 0 := by
  rintro rfl
  exact absurd h (by decide)
theorem mj6_PR_up {m : Nat} {q g s v : Int32} {I : mj_I} (h : mj6_O m q I) (hg : mj6_fok (I 48 q) g) (hs : mj_in s 6) : mj6_O m q (mj_upI I 62 (6 * g + s) v) := by
  obtain ⟨a, b, c⟩ := h
  refine ⟨a, b, fun x hx hn => ?_⟩
  have e := mj6_ix hg.1 hs
  by_cases hh : nI x = 6 * g + s
  · show mj6_fok (I 48 q) (nI x / 6)
    rw [hh, e.2]; exact hg
  · rw [mj_upI_eq, if_neg hh] at hn
    exact c x hx hn
def s_X6_w3 (q : Int32) (m : Nat) (y : Nat) : Nat → Nat → mj_I → mj_I
  | 0, j, I => I
  | k + 1, j, I => if (0 : Int32) < I 61 (nI y) then (if ((s_X6_mayGo ((nI y) - (nI y) / 6 * 6) (nI j) I) : Int32) = 0 then (s_X6_w3 q m y k (j + 1)  I) else (s_X6_w3 q m y k (j + 1)  (mj_upI I 62 ((6 * (s_X6_onBy q ((nI y) / 6) (I 46 (nI j)) I)) + (nI j)) ((I 62 ((6 * (s_X6_onBy q ((nI y) / 6) (I 46 (nI j)) I)) + (nI j))) + (I 61 (nI y)))))) else I
set_option maxHeartbeats 8000000 in
theorem x_X6_w3 (l : Launch) (b base : Nat) (D : va_G) (z : mj_K × (Int32 → Int32)) (N : Nat) (q : Int32) (m : Nat) (y : Nat) (c d r : Nat) (Q : Option Value → mj_S → Prop) (hm : m ≤ 6) (hq : mj_in q 3) (hy : y < 42) : ∀ (k j : Nat) (I : mj_I), k = m - j → 0 ≤ j → j ≤ m + 1 → (mj6_O m q I) → ((∀ w_3 : Value, mj_Rn l b base D z mj_m_X6_goRows 100 [.ref 42, .int q, .int (nI y), w_3] [] (mj_KS N, (s_X6_w3 q m y k j  I), mj_PP c d r) (Q))) → mj_Rn l b base D z mj_m_X6_goRows 31 [.ref 42, .int q, .int (nI y), .int (nI j)] [] (mj_KS N, I, mj_PP c d r) (Q) := by
  intro k
  induction k with
  | zero =>
    intro j I hk hlo hj hO K
    refine R_seg (φ := []) (pc' := 36) (L' := [.ref 42, .int q, .int (nI y), .int (nI j)]) (st' := [.int (I 42 5), .int (nI j)]) (σ' := (mj_KS N, I, mj_PP c d r)) 3 rfl trivial ?_
    refine R_br (q := (nI j : Int32) < I 42 5) (t := 39) (f := 100) (rest := []) rfl (fun h1 => absurd h1 (by rw [hO.1]; exact nI_nlt (by omega) (by omega))) (fun h1 => ?_)
    exact K (.int (nI j))
  | succ k ih =>
    intro j I hk hlo hj hO K
    have hjm : j < m := by omega
    have hin : mj_in (nI j) 6 := mj_in_nI (by omega) (by omega)
    have hiny : mj_in (nI y) 42 := mj_in_nI hy (by decide)
    refine R_seg (φ := []) (pc' := 36) (L' := [.ref 42, .int q, .int (nI y), .int (nI j)]) (st' := [.int (I 42 5), .int (nI j)]) (σ' := (mj_KS N, I, mj_PP c d r)) 3 rfl trivial ?_
    refine R_br (q := (nI j : Int32) < I 42 5) (t := 39) (f := 100) (rest := []) rfl (fun h1 => ?_) (fun h1 => absurd (by rw [hO.1]; exact nI_lt hjm (by omega)) h1)
    refine R_seg (φ := [mj_in (nI y) 42]) (pc' := 45) (L' := [.ref 42, .int q, .int (nI y), .int (nI j)]) (st' := [.int (I 61 (nI y))]) (σ' := (mj_KS N, I, mj_PP c d r)) 4 rfl ⟨hiny, trivial⟩ ?_
    refine R_br (q := (0 : Int32) < I 61 (nI y)) (t := 48) (f := 100) (rest := []) rfl (fun h2 => ?_) (fun h2 => ?_)
    · skip
      refine R_seg (φ := [¬ (6 : Int32) = 0]) (pc' := 54) (L' := [.ref 42, .int q, .int (nI y), .int (nI j)]) (st' := [.int (nI j), .int ((nI y) - (nI y) / 6 * 6), .ref 42]) (σ' := (mj_KS N, I, mj_PP c d r)) 5 rfl ⟨by decide, trivial⟩ ?_
      refine R_ce (idx := 152) (mid := 113) (kind := 0) (N := N) (M' := mj_m_X6_mayGo) (As := [.ref 42, .int ((nI y) - (nI y) / 6 * 6), .int (nI j)]) (rest := []) (I := I) (P := mj_PP c d r) (I' := I) (P' := mj_PP c d r) (v := some (.int (s_X6_mayGo ((nI y) - (nI y) / 6 * 6) (nI j) I))) rfl rfl rfl mj_mc113 mj_dc113 rfl rfl rfl rfl rfl rfl (x_X6_mayGo l b base D z N ((nI y) - (nI y) / 6 * 6) (nI j) I c d r ((mj6_m6 hy))) ?_
      refine R_seg (φ := []) (pc' := 57) (L' := [.ref 42, .int q, .int (nI y), .int (nI j)]) (st' := [.int (s_X6_mayGo ((nI y) - (nI y) / 6 * 6) (nI j) I)]) (σ' := (mj_KS N, I, mj_PP c d r)) 0 rfl trivial ?_
      refine R_br (q := ((s_X6_mayGo ((nI y) - (nI y) / 6 * 6) (nI j) I) : Int32) = 0) (t := 94) (f := 60) (rest := []) rfl (fun h3 => ?_) (fun h3 => ?_)
      · skip
        refine R_seg (φ := []) (pc' := 31) (L' := [.ref 42, .int q, .int (nI y), .int ((nI j) + 1)]) (st' := []) (σ' := (mj_KS N, I, mj_PP c d r)) 2 rfl trivial ?_
        rw [nI_1 j]
        rw [show s_X6_w3 q m y (k + 1) j  I = s_X6_w3 q m y k (j + 1)  I from by simp only [s_X6_w3, if_pos h2, if_pos h3, Bool.false_eq_true, ↓reduceIte, Nat.reduceAdd, Nat.reduceMul, mj_tn0, mj_tn1, mj_tn2, mj_tn3]] at K
        exact ih (j + 1)  I (by omega) (by omega) (by omega) (hO) K
      · skip
        refine R_seg (φ := [¬ (6 : Int32) = 0, mj_in (nI j) 6]) (pc' := 78) (L' := [.ref 42, .int q, .int (nI y), .int (nI j)]) (st' := [.int (I 46 (nI j)), .int ((nI y) / 6), .int q, .ref 42, .int 6, .ref 62]) (σ' := (mj_KS N, I, mj_PP c d r)) 12 rfl ⟨by decide, hin, trivial⟩ ?_
        refine R_ce (idx := 149) (mid := 115) (kind := 0) (N := N) (M' := mj_m_X6_onBy) (As := [.ref 42, .int q, .int ((nI y) / 6), .int (I 46 (nI j))]) (rest := [.int 6, .ref 62]) (I := I) (P := mj_PP c d r) (I' := I) (P' := mj_PP c d r) (v := some (.int (s_X6_onBy q ((nI y) / 6) (I 46 (nI j)) I))) rfl rfl rfl mj_mc115 mj_dc115 rfl rfl rfl rfl rfl rfl (x_X6_onBy l b base D z N q ((nI y) / 6) (I 46 (nI j)) I c d r (hq) ((mj6_d6 hy))) ?_
        refine R_seg (φ := [mj_in ((6 * (s_X6_onBy q ((nI y) / 6) (I 46 (nI j)) I)) + (nI j)) 42, mj_in (nI y) 42, mj_in ((6 * (s_X6_onBy q ((nI y) / 6) (I 46 (nI j)) I)) + (nI j)) 42]) (pc' := 31) (L' := [.ref 42, .int q, .int (nI y), .int ((nI j) + 1)]) (st' := []) (σ' := (mj_KS N, (mj_upI I 62 ((6 * (s_X6_onBy q ((nI y) / 6) (I 46 (nI j)) I)) + (nI j)) ((I 62 ((6 * (s_X6_onBy q ((nI y) / 6) (I 46 (nI j)) I)) + (nI j))) + (I 61 (nI y)))), mj_PP c d r)) 13 rfl ⟨(mj6_ix (mj6_on (hO.2.1 y hy (mj6_pos h2))).1 hin).1, hiny, (mj6_ix (mj6_on (hO.2.1 y hy (mj6_pos h2))).1 hin).1, trivial⟩ ?_
        rw [nI_1 j]
        rw [show s_X6_w3 q m y (k + 1) j  I = s_X6_w3 q m y k (j + 1)  (mj_upI I 62 ((6 * (s_X6_onBy q ((nI y) / 6) (I 46 (nI j)) I)) + (nI j)) ((I 62 ((6 * (s_X6_onBy q ((nI y) / 6) (I 46 (nI j)) I)) + (nI j))) + (I 61 (nI y)))) from by simp only [s_X6_w3, if_pos h2, if_neg h3, Bool.false_eq_true, ↓reduceIte, Nat.reduceAdd, Nat.reduceMul, mj_tn0, mj_tn1, mj_tn2, mj_tn3]] at K
        exact ih (j + 1)  (mj_upI I 62 ((6 * (s_X6_onBy q ((nI y) / 6) (I 46 (nI j)) I)) + (nI j)) ((I 62 ((6 * (s_X6_onBy q ((nI y) / 6) (I 46 (nI j)) I)) + (nI j))) + (I 61 (nI y)))) (by omega) (by omega) (by omega) (mj6_PR_up hO (mj6_on (hO.2.1 y hy (mj6_pos h2))) hin) K
    · skip
      rw [show s_X6_w3 q m y (k + 1) j  I = I from by simp only [s_X6_w3, if_neg h2, Bool.false_eq_true, ↓reduceIte, Nat.reduceAdd, Nat.reduceMul, mj_tn0, mj_tn1, mj_tn2, mj_tn3]] at K
      exact K (.int (nI j))
theorem mj6_w3_O (q : Int32) (m y : Nat) (hm : m ≤ 6) (hy : y < 42) : ∀ (k j : Nat) (I : mj_I), k + j ≤ m → mj6_O m q I → mj6_O m q (s_X6_w3 q m y k j I) := by
  intro k
  induction k with
  | zero => intro j I _ h; exact h
  | succ k ih =>
    intro j I hk h
    rw [s_X6_w3]
    by_cases h1 : 0 < I 61 (nI y)
    · rw [if_pos h1]
      split
      · exact ih _ _ (by omega) h
      · exact ih _ _ (by omega) (mj6_PR_up h (mj6_on (h.2.1 y hy (mj6_pos h1))) (mj_in_nI (by omega) (by omega)))
    · rw [if_neg h1]; exact h
theorem mj6_w3_ne (q : Int32) (m y : Nat) (x : Nat) (hx : x ≠ 62) : ∀ (k j : Nat) (I : mj_I), s_X6_w3 q m y k j I x = I x := by
  intro k
  induction k with
  | zero => intro j I; rfl
  | succ k ih =>
    intro j I
    rw [s_X6_w3]
    repeat' split
    all_goals first
      | rfl
      | rw [ih, mj_upI_ne hx]
      | rw [ih]
def s_X6_w4 (q : Int32) : Nat → Nat → mj_I → mj_I
  | 0, j, I => I
  | k + 1, j, I => s_X6_w4 q k (j + 1)  (mj_upI I 61 (nI j) (I 62 (nI j)))
set_option maxHeartbeats 8000000 in
theorem x_X6_w4 (l : Launch) (b base : Nat) (D : va_G) (z : mj_K × (Int32 → Int32)) (N : Nat) (q : Int32) (c d r : Nat) : ∀ (k j : Nat) (w3 : Value) (I : mj_I), k = 42 - j → 0 ≤ j → j ≤ 42 + 1 → mj_Rn l b base D z mj_m_X6_goRows 108 [.ref 42, .int q, .int (nI j), w3] [] (mj_KS N, I, mj_PP c d r) (mj_E N none (s_X6_w4 q k j  I) (mj_PP c d r)) := by
  intro k
  induction k with
  | zero =>
    intro j w3 I hk hlo hj
    refine R_seg (φ := []) (pc' := 111) (L' := [.ref 42, .int q, .int (nI j), w3]) (st' := [.int 42, .int (nI j)]) (σ' := (mj_KS N, I, mj_PP c d r)) 2 rfl trivial ?_
    refine R_br (q := (nI j : Int32) < 42) (t := 114) (f := 132) (rest := []) rfl (fun h1 => absurd h1 (show ¬ nI j < nI 42 from nI_nlt (by omega) (by omega))) (fun h1 => ?_)
    exact R_rv rfl rfl (mj_leaf (by simp only [s_X6_w4, Bool.false_eq_true, ↓reduceIte, Nat.reduceAdd, Nat.reduceMul, mj_tn0, mj_tn1, mj_tn2, mj_tn3]) (by simp only [s_X6_w4, Bool.false_eq_true, ↓reduceIte, Nat.reduceAdd, Nat.reduceMul, mj_tn0, mj_tn1, mj_tn2, mj_tn3]))
  | succ k ih =>
    intro j w3 I hk hlo hj
    have hjm : j < 42 := by omega
    have hin : mj_in (nI j) 42 := mj_in_nI (by omega) (by omega)
    refine R_seg (φ := []) (pc' := 111) (L' := [.ref 42, .int q, .int (nI j), w3]) (st' := [.int 42, .int (nI j)]) (σ' := (mj_KS N, I, mj_PP c d r)) 2 rfl trivial ?_
    refine R_br (q := (nI j : Int32) < 42) (t := 114) (f := 132) (rest := []) rfl (fun h1 => ?_) (fun h1 => absurd (show nI j < nI 42 from nI_lt hjm (by omega)) h1)
    refine R_seg (φ := [mj_in (nI j) 42, mj_in (nI j) 42]) (pc' := 108) (L' := [.ref 42, .int q, .int ((nI j) + 1), w3]) (st' := []) (σ' := (mj_KS N, (mj_upI I 61 (nI j) (I 62 (nI j))), mj_PP c d r)) 10 rfl ⟨hin, hin, trivial⟩ ?_
    rw [nI_1 j]
    rw [show s_X6_w4 q (k + 1) j  I = s_X6_w4 q k (j + 1)  (mj_upI I 61 (nI j) (I 62 (nI j))) from by simp only [s_X6_w4, Bool.false_eq_true, ↓reduceIte, Nat.reduceAdd, Nat.reduceMul, mj_tn0, mj_tn1, mj_tn2, mj_tn3]]
    exact ih (j + 1)  w3 (mj_upI I 61 (nI j) (I 62 (nI j))) (by omega) (by omega) (by omega)
def s_X6_w2 (q : Int32) (m : Nat) : Nat → Nat → mj_I → mj_I
  | 0, j, I => I
  | k + 1, j, I => s_X6_w2 q m k (j + 1)  (s_X6_w3 q m j m 0  I)
set_option maxHeartbeats 8000000 in
theorem x_X6_w2 (l : Launch) (b base : Nat) (D : va_G) (z : mj_K × (Int32 → Int32)) (N : Nat) (q : Int32) (m : Nat) (c d r : Nat) (Q : Option Value → mj_S → Prop) (hm : m ≤ 6) (hq : mj_in q 3) : ∀ (k j : Nat) (w3 : Value) (I : mj_I), k = 42 - j → 0 ≤ j → j ≤ 42 + 1 → (mj6_O m q I) → ((∀ w_2 w_3 : Value, mj_Rn l b base D z mj_m_X6_goRows 106 [.ref 42, .int q, w_2, w_3] [] (mj_KS N, (s_X6_w2 q m k j  I), mj_PP c d r) (Q))) → mj_Rn l b base D z mj_m_X6_goRows 23 [.ref 42, .int q, .int (nI j), w3] [] (mj_KS N, I, mj_PP c d r) (Q) := by
  intro k
  induction k with
  | zero =>
    intro j w3 I hk hlo hj hO K
    refine R_seg (φ := []) (pc' := 26) (L' := [.ref 42, .int q, .int (nI j), w3]) (st' := [.int 42, .int (nI j)]) (σ' := (mj_KS N, I, mj_PP c d r)) 2 rfl trivial ?_
    refine R_br (q := (nI j : Int32) < 42) (t := 29) (f := 106) (rest := []) rfl (fun h1 => absurd h1 (show ¬ nI j < nI 42 from nI_nlt (by omega) (by omega))) (fun h1 => ?_)
    exact K (.int (nI j)) w3
  | succ k ih =>
    intro j w3 I hk hlo hj hO K
    have hjm : j < 42 := by omega
    have hin : mj_in (nI j) 42 := mj_in_nI (by omega) (by omega)
    refine R_seg (φ := []) (pc' := 26) (L' := [.ref 42, .int q, .int (nI j), w3]) (st' := [.int 42, .int (nI j)]) (σ' := (mj_KS N, I, mj_PP c d r)) 2 rfl trivial ?_
    refine R_br (q := (nI j : Int32) < 42) (t := 29) (f := 106) (rest := []) rfl (fun h1 => ?_) (fun h1 => absurd (show nI j < nI 42 from nI_lt hjm (by omega)) h1)
    refine R_seg (φ := []) (pc' := 31) (L' := [.ref 42, .int q, .int (nI j), .int 0]) (st' := []) (σ' := (mj_KS N, I, mj_PP c d r)) 2 rfl trivial ?_
    refine x_X6_w3 l b base D z N q m j c d r _ hm hq hjm m 0  I (by omega) (by omega) (by omega) hO ?_
    intro w_3
    refine R_seg (φ := []) (pc' := 23) (L' := [.ref 42, .int q, .int ((nI j) + 1), w_3]) (st' := []) (σ' := (mj_KS N, (s_X6_w3 q m j m 0  I), mj_PP c d r)) 2 rfl trivial ?_
    rw [nI_1 j]
    rw [show s_X6_w2 q m (k + 1) j  I = s_X6_w2 q m k (j + 1)  (s_X6_w3 q m j m 0  I) from by simp only [s_X6_w2, Bool.false_eq_true, ↓reduceIte, Nat.reduceAdd, Nat.reduceMul, mj_tn0, mj_tn1, mj_tn2, mj_tn3]] at K
    exact ih (j + 1)  w_3 (s_X6_w3 q m j m 0  I) (by omega) (by omega) (by omega) (mj6_w3_O q m j hm hjm m 0 I (by omega) hO) K
def s_X6_w1 (q : Int32) : Nat → Nat → mj_I → mj_I
  | 0, j, I => I
  | k + 1, j, I => s_X6_w1 q k (j + 1)  (mj_upI I 62 (nI j) 0)
set_option maxHeartbeats 8000000 in
theorem x_X6_w1 (l : Launch) (b base : Nat) (D : va_G) (z : mj_K × (Int32 → Int32)) (N : Nat) (q : Int32) (c d r : Nat) (Q : Option Value → mj_S → Prop) : ∀ (k j : Nat) (I : mj_I), k = 42 - j → 0 ≤ j → j ≤ 42 + 1 → ((∀ w_2 : Value, mj_Rn l b base D z mj_m_X6_goRows 21 [.ref 42, .int q, w_2, mj_mk] [] (mj_KS N, (s_X6_w1 q k j  I), mj_PP c d r) (Q))) → mj_Rn l b base D z mj_m_X6_goRows 2 [.ref 42, .int q, .int (nI j), mj_mk] [] (mj_KS N, I, mj_PP c d r) (Q) := by
  intro k
  induction k with
  | zero =>
    intro j I hk hlo hj K
    refine R_seg (φ := []) (pc' := 5) (L' := [.ref 42, .int q, .int (nI j), mj_mk]) (st' := [.int 42, .int (nI j)]) (σ' := (mj_KS N, I, mj_PP c d r)) 2 rfl trivial ?_
    refine R_br (q := (nI j : Int32) < 42) (t := 8) (f := 21) (rest := []) rfl (fun h1 => absurd h1 (show ¬ nI j < nI 42 from nI_nlt (by omega) (by omega))) (fun h1 => ?_)
    exact K (.int (nI j))
  | succ k ih =>
    intro j I hk hlo hj K
    have hjm : j < 42 := by omega
    have hin : mj_in (nI j) 42 := mj_in_nI (by omega) (by omega)
    refine R_seg (φ := []) (pc' := 5) (L' := [.ref 42, .int q, .int (nI j), mj_mk]) (st' := [.int 42, .int (nI j)]) (σ' := (mj_KS N, I, mj_PP c d r)) 2 rfl trivial ?_
    refine R_br (q := (nI j : Int32) < 42) (t := 8) (f := 21) (rest := []) rfl (fun h1 => ?_) (fun h1 => absurd (show nI j < nI 42 from nI_lt hjm (by omega)) h1)
    refine R_seg (φ := [mj_in (nI j) 42]) (pc' := 2) (L' := [.ref 42, .int q, .int ((nI j) + 1), mj_mk]) (st' := []) (σ' := (mj_KS N, (mj_upI I 62 (nI j) 0), mj_PP c d r)) 7 rfl ⟨hin, trivial⟩ ?_
    rw [nI_1 j]
    rw [show s_X6_w1 q (k + 1) j  I = s_X6_w1 q k (j + 1)  (mj_upI I 62 (nI j) 0) from by simp only [s_X6_w1, Bool.false_eq_true, ↓reduceIte, Nat.reduceAdd, Nat.reduceMul, mj_tn0, mj_tn1, mj_tn2, mj_tn3]] at K
    exact ih (j + 1)  (mj_upI I 62 (nI j) 0) (by omega) (by omega) (by omega) K
theorem mj6_w1_ne (q : Int32) (x : Nat) (hx : x ≠ 62) : ∀ (k j : Nat) (I : mj_I), s_X6_w1 q k j I x = I x := by
  intro k
  induction k with
  | zero => intro j I; rfl
  | succ k ih => intro j I; rw [s_X6_w1, ih, mj_upI_ne hx]
theorem mj6_w1_0 (q : Int32) (t : Nat) (ht : t < 42) : ∀ (k j : Nat) (I : mj_I), j + k ≤ 42 → ((t < j → I 62 (nI t) = 0) → t < j + k → s_X6_w1 q k j I 62 (nI t) = 0) := by
  intro k
  induction k with
  | zero => intro j I _ h h2; exact h h2
  | succ k ih =>
    intro j I h3 h h2
    rw [s_X6_w1]
    refine ih (j + 1) _ (by omega) (fun h4 => ?_) (by omega)
    rw [mj_upI_eq]
    by_cases hj : nI t = nI j
    · rw [if_pos hj]
    · rw [if_neg hj]
      refine h ?_
      rcases Nat.lt_or_ge t j with q | q
      · exact q
      · exact absurd (congrArg nI (show t = j by omega)) hj
theorem mj6_w1_O {m : Nat} {q : Int32} {I : mj_I} (hS : I 42 5 = nI m) (h : mj6_PR 61 (I 48 q) I) : mj6_O m q (s_X6_w1 q 42 0 I) := by
  refine ⟨?_, ?_, ?_⟩
  · rw [mj6_w1_ne q 42 (by decide)]; exact hS
  · intro x hx hn
    rw [mj6_w1_ne q 61 (by decide)] at hn
    rw [mj6_w1_ne q 48 (by decide)]
    exact h x hx hn
  · intro x hx hn
    exact absurd (mj6_w1_0 q x hx 42 0 I (by omega) (fun q => absurd q (by omega)) (by omega)) hn
def s_X6_goRows (m : Nat) (q : Int32) (I : mj_I) : mj_I := s_X6_w4 q 42 0  (s_X6_w2 q m 42 0  (s_X6_w1 q 42 0  I))
set_option maxHeartbeats 8000000 in
theorem x_X6_goRows (l : Launch) (b base : Nat) (D : va_G) (z : mj_K × (Int32 → Int32)) (N : Nat) (m : Nat) (q : Int32) (I : mj_I) (c d r : Nat) (hm : m ≤ 6) (hq : mj_in q 3) (hS : I 42 5 = nI m) (hR : mj6_PR 61 (I 48 q) I) : mj_Rn l b base D z mj_m_X6_goRows 0 [.ref 42, .int q, mj_mk, mj_mk] [] (mj_KS N, I, mj_PP c d r) (mj_E N none (s_X6_goRows m q I) (mj_PP c d r)) := by
  refine R_seg (φ := []) (pc' := 2) (L' := [.ref 42, .int q, .int 0, mj_mk]) (st' := []) (σ' := (mj_KS N, I, mj_PP c d r)) 2 rfl trivial ?_
  refine x_X6_w1 l b base D z N q c d r _  42 0  I (by omega) (by omega) (by omega) ?_
  intro w_2
  refine R_seg (φ := []) (pc' := 23) (L' := [.ref 42, .int q, .int 0, mj_mk]) (st' := []) (σ' := (mj_KS N, (s_X6_w1 q 42 0  I), mj_PP c d r)) 2 rfl trivial ?_
  refine x_X6_w2 l b base D z N q m c d r _ hm hq 42 0  mj_mk (s_X6_w1 q 42 0  I) (by omega) (by omega) (by omega) (mj6_w1_O hS hR) ?_
  intro w_2 w_3
  refine R_seg (φ := []) (pc' := 108) (L' := [.ref 42, .int q, .int 0, w_3]) (st' := []) (σ' := (mj_KS N, (s_X6_w2 q m 42 0  (s_X6_w1 q 42 0  I)), mj_PP c d r)) 2 rfl trivial ?_
  exact x_X6_w4 l b base D z N q c d r  42 0  w_3 (s_X6_w2 q m 42 0  (s_X6_w1 q 42 0  I)) (by omega) (by omega) (by omega)
theorem mj6_w2_O (q : Int32) (m : Nat) (hm : m ≤ 6) : ∀ (k j : Nat) (I : mj_I), k + j ≤ 42 → mj6_O m q I → mj6_O m q (s_X6_w2 q m k j I) := by
  intro k
  induction k with
  | zero => intro j I _ h; exact h
  | succ k ih =>
    intro j I hk h
    rw [s_X6_w2]
    exact ih _ _ (by omega) (mj6_w3_O q m j hm (by omega) m 0 I (by omega) h)
theorem mj6_w2_ne (q : Int32) (m : Nat) (x : Nat) (hx : x ≠ 62) : ∀ (k j : Nat) (I : mj_I), s_X6_w2 q m k j I x = I x := by
  intro k
  induction k with
  | zero => intro j I; rfl
  | succ k ih => intro j I; rw [s_X6_w2, ih, mj6_w3_ne _ _ _ _ hx]
theorem mj6_w4_ne (q : Int32) (x : Nat) (hx : x ≠ 61) : ∀ (k j : Nat) (I : mj_I), s_X6_w4 q k j I x = I x := by
  intro k
  induction k with
  | zero => intro j I; rfl
  | succ k ih => intro j I; rw [s_X6_w4, ih, mj_upI_ne hx]
theorem mj6_w4_v (q : Int32) (t : Nat) (ht : t < 42) : ∀ (k j : Nat) (I : mj_I), j + k ≤ 42 → ((t < j → I 61 (nI t) = I 62 (nI t)) → t < j + k → s_X6_w4 q k j I 61 (nI t) = I 62 (nI t)) := by
  intro k
  induction k with
  | zero => intro j I _ h h2; exact h h2
  | succ k ih =>
    intro j I h3 h h2
    rw [s_X6_w4]
    refine (ih (j + 1) (mj_upI I 61 (nI j) (I 62 (nI j))) (by omega) (fun h4 => ?_) (by omega)).trans rfl
    rw [mj_upI_eq]
    show (if nI t = nI j then I 62 (nI j) else I 61 (nI t)) = I 62 (nI t)
    by_cases hj : nI t = nI j
    · rw [if_pos hj, hj]
    · rw [if_neg hj]
      refine h ?_
      rcases Nat.lt_or_ge t j with q | q
      · exact q
      · exact absurd (congrArg nI (show t = j by omega)) hj
theorem mj6_gw_ne (m : Nat) (q : Int32) (I : mj_I) (x : Nat) (h1 : x ≠ 61) (h2 : x ≠ 62) : s_X6_goRows m q I x = I x := by
  unfold s_X6_goRows
  rw [mj6_w4_ne _ _ h1, mj6_w2_ne _ _ _ h2, mj6_w1_ne _ _ h2]
theorem mj6_gw_R {m : Nat} {q : Int32} {I : mj_I} (hm : m ≤ 6) (hS : I 42 5 = nI m) (h : mj6_PR 61 (I 48 q) I) : mj6_PR 61 (s_X6_goRows m q I 48 q) (s_X6_goRows m q I) := by
  have hO := mj6_w2_O q m hm 42 0 _ (by omega) (mj6_w1_O hS h)
  intro x hx hn
  unfold s_X6_goRows at hn ⊢
  rw [mj6_w4_v q x hx 42 0 _ (by omega) (fun q => absurd q (by omega)) (by omega)] at hn
  rw [mj6_w4_ne q 48 (by decide)]
  exact hO.2.2 x hx hn
theorem mj6_i64d {x y : Int64} (hx : 0 ≤ x.toInt) (hy : 0 < y.toInt) : (x / y).toInt = x.toInt / y.toInt := by
  have h2 := Int64.toInt_lt x
  have h3 : y ≠ -1 := by
    rintro rfl
    exact absurd hy (by decide)
  rw [Int64.toInt_div_of_ne_right _ _ h3]
  exact Int.tdiv_eq_ediv_of_nonneg hx
theorem mj6_bm64 {x : Int} (h1 : -9223372036854775808 ≤ x) (h2 : x < 9223372036854775808) : x.bmod (2 ^ 64) = x := by
  unfold Int.bmod
  have e : ((2 ^ 64 : Nat) : Int) = 18446744073709551616 := rfl
  simp only [e]
  split <;> omega
theorem mj6_i64m {x y : Int64} (hx : 0 ≤ x.toInt) (hy : 0 < y.toInt) : (x - x / y * y).toInt = x.toInt % y.toInt := by
  have h2 := Int64.toInt_lt x
  have e1 := mj6_i64d hx hy
  have e2 := Int.emod_add_mul_ediv x.toInt y.toInt
  have a1 := Int.emod_nonneg x.toInt (show y.toInt ≠ 0 by omega)
  have a3 : 0 ≤ x.toInt / y.toInt * y.toInt := Int.mul_nonneg (Int.ediv_nonneg hx (by omega)) (by omega)
  have e4 : x.toInt / y.toInt * y.toInt = x.toInt - x.toInt % y.toInt := by rw [Int.mul_comm]; omega
  have e3 : (x / y * y).toInt = x.toInt - x.toInt % y.toInt := by
    rw [Int64.toInt_mul, e1, e4]
    exact mj6_bm64 (by omega) (by omega)
  rw [Int64.toInt_sub, e3]
  refine (mj6_bm64 (by omega) (by omega)).trans (by omega)
theorem mj6_l0 {y : Int64} (h : lg_cmp y 0 = 0) : y.toInt = 0 := by
  rw [(lg_cmp_eq y 0).mp h]
  decide
theorem mj6_l1 {y : Int64} (h : y.toInt = 0) : lg_cmp y 0 = 0 := (lg_cmp_eq y 0).mpr (Int64.toInt_inj.mp (h.trans (by decide)))
theorem mj6_ln {x : Int64} (h : 0 < x.toInt) : ¬ x = 0 := by
  rintro rfl
  exact absurd h (by decide)
theorem mj6_lst {x y : Int64} {m j : Nat} (hx : 0 ≤ x.toInt) (hy : 0 ≤ y.toInt ∧ y.toInt + (j : Int) ≤ (m : Int)) (h : ¬ lg_cmp y 0 = 0) : 0 < y.toInt ∧ (0 ≤ (x - x / y * y).toInt ∧ (x - x / y * y).toInt + ((j + 1 : Nat) : Int) ≤ (m : Int)) := by
  have h0 : 0 < y.toInt := by
    rcases Int.lt_or_eq_of_le hy.1 with q | q
    · exact q
    · exact absurd (mj6_l1 q.symm) h
  have a1 := Int.emod_nonneg x.toInt (show y.toInt ≠ 0 by omega)
  have a2 := Int.emod_lt_of_pos x.toInt h0
  rw [mj6_i64m hx h0]
  omega
def s_X6_lt (u : Int64) (e : Int64) (w : Int32) (m : Nat) : Nat → Nat → Int64 → Int64 → mj_I → Int64 × mj_I
  | 0, j, x, y, I => if (w : Int32) = 0 then (u / x, I) else (e / x, I)
  | k + 1, j, x, y, I => if (lg_cmp y 0 : Int32) = 0 then (if (w : Int32) = 0 then (u / x, I) else (e / x, I)) else (s_X6_lt u e w m k (j + 1) y (x - x / y * y) I)
set_option maxHeartbeats 8000000 in
theorem x_X6_lt (l : Launch) (b base : Nat) (D : va_G) (z : mj_K × (Int32 → Int32)) (N : Nat) (u : Int64) (e : Int64) (w : Int32) (m : Nat) (c d r : Nat) : ∀ (k j : Nat) (x : Int64) (y : Int64) (w9 : Value) (I : mj_I), k = m - j → 0 ≤ j → j ≤ m + 1 → (0 ≤ x.toInt) → (0 ≤ y.toInt ∧ y.toInt + (j : Int) ≤ (m : Int)) → (0 < x.toInt ∨ 0 < y.toInt) → mj_Rn l b base D z mj_m_X6_inLeastTerms 6 [.long u, mj_mk, .long e, mj_mk, .int w, .long x, mj_mk, .long y, mj_mk, w9, mj_mk] [] (mj_KS N, I, mj_PP c d r) (mj_E N (some (.long (s_X6_lt u e w m k j x y I).1)) (s_X6_lt u e w m k j x y I).2 (mj_PP c d r)) := by
  intro k
  induction k with
  | zero =>
    intro j x y w9 I hk hlo hj hx hy hxy
    refine R_seg (φ := []) (pc' := 10) (L' := [.long u, mj_mk, .long e, mj_mk, .int w, .long x, mj_mk, .long y, mj_mk, w9, mj_mk]) (st' := [.int (lg_cmp y 0)]) (σ' := (mj_KS N, I, mj_PP c d r)) 3 rfl trivial ?_
    refine R_br (q := (lg_cmp y 0 : Int32) = 0) (t := 31) (f := 13) (rest := []) rfl (fun h1 => ?_) (fun h1 => absurd (mj6_l1 (by omega)) h1)
    refine R_seg (φ := []) (pc' := 33) (L' := [.long u, mj_mk, .long e, mj_mk, .int w, .long x, mj_mk, .long y, mj_mk, w9, mj_mk]) (st' := [.int w]) (σ' := (mj_KS N, I, mj_PP c d r)) 1 rfl trivial ?_
    refine R_br (q := (w : Int32) = 0) (t := 36) (f := 43) (rest := []) rfl (fun h2 => ?_) (fun h2 => ?_)
    · skip
      refine R_seg (φ := [¬ (x : Int64) = 0]) (pc' := 47) (L' := [.long u, mj_mk, .long e, mj_mk, .int w, .long x, mj_mk, .long y, mj_mk, w9, mj_mk]) (st' := [.long (u / x)]) (σ' := (mj_KS N, I, mj_PP c d r)) 4 rfl ⟨mj6_ln (by have := mj6_l0 h1; omega), trivial⟩ ?_
      exact R_rl rfl rfl (mj_leaf (by simp only [s_X6_lt, if_pos h2, Bool.false_eq_true, ↓reduceIte, Nat.reduceAdd, Nat.reduceMul, mj_tn0, mj_tn1, mj_tn2, mj_tn3]) (by simp only [s_X6_lt, if_pos h2, Bool.false_eq_true, ↓reduceIte, Nat.reduceAdd, Nat.reduceMul, mj_tn0, mj_tn1, mj_tn2, mj_tn3]))
    · skip
      refine R_seg (φ := [¬ (x : Int64) = 0]) (pc' := 47) (L' := [.long u, mj_mk, .long e, mj_mk, .int w, .long x, mj_mk, .long y, mj_mk, w9, mj_mk]) (st' := [.long (e / x)]) (σ' := (mj_KS N, I, mj_PP c d r)) 3 rfl ⟨mj6_ln (by have := mj6_l0 h1; omega), trivial⟩ ?_
      exact R_rl rfl rfl (mj_leaf (by simp only [s_X6_lt, if_neg h2, Bool.false_eq_true, ↓reduceIte, Nat.reduceAdd, Nat.reduceMul, mj_tn0, mj_tn1, mj_tn2, mj_tn3]) (by simp only [s_X6_lt, if_neg h2, Bool.false_eq_true, ↓reduceIte, Nat.reduceAdd, Nat.reduceMul, mj_tn0, mj_tn1, mj_tn2, mj_tn3]))
  | succ k ih =>
    intro j x y w9 I hk hlo hj hx hy hxy
    have hjm : j < m := by omega
    refine R_seg (φ := []) (pc' := 10) (L' := [.long u, mj_mk, .long e, mj_mk, .int w, .long x, mj_mk, .long y, mj_mk, w9, mj_mk]) (st' := [.int (lg_cmp y 0)]) (σ' := (mj_KS N, I, mj_PP c d r)) 3 rfl trivial ?_
    refine R_br (q := (lg_cmp y 0 : Int32) = 0) (t := 31) (f := 13) (rest := []) rfl (fun h1 => ?_) (fun h1 => ?_)
    · skip
      refine R_seg (φ := []) (pc' := 33) (L' := [.long u, mj_mk, .long e, mj_mk, .int w, .long x, mj_mk, .long y, mj_mk, w9, mj_mk]) (st' := [.int w]) (σ' := (mj_KS N, I, mj_PP c d r)) 1 rfl trivial ?_
      refine R_br (q := (w : Int32) = 0) (t := 36) (f := 43) (rest := []) rfl (fun h2 => ?_) (fun h2 => ?_)
      · skip
        refine R_seg (φ := [¬ (x : Int64) = 0]) (pc' := 47) (L' := [.long u, mj_mk, .long e, mj_mk, .int w, .long x, mj_mk, .long y, mj_mk, w9, mj_mk]) (st' := [.long (u / x)]) (σ' := (mj_KS N, I, mj_PP c d r)) 4 rfl ⟨mj6_ln (by have := mj6_l0 h1; omega), trivial⟩ ?_
        exact R_rl rfl rfl (mj_leaf (by simp only [s_X6_lt, if_pos h1, if_pos h2, Bool.false_eq_true, ↓reduceIte, Nat.reduceAdd, Nat.reduceMul, mj_tn0, mj_tn1, mj_tn2, mj_tn3]) (by simp only [s_X6_lt, if_pos h1, if_pos h2, Bool.false_eq_true, ↓reduceIte, Nat.reduceAdd, Nat.reduceMul, mj_tn0, mj_tn1, mj_tn2, mj_tn3]))
      · skip
        refine R_seg (φ := [¬ (x : Int64) = 0]) (pc' := 47) (L' := [.long u, mj_mk, .long e, mj_mk, .int w, .long x, mj_mk, .long y, mj_mk, w9, mj_mk]) (st' := [.long (e / x)]) (σ' := (mj_KS N, I, mj_PP c d r)) 3 rfl ⟨mj6_ln (by have := mj6_l0 h1; omega), trivial⟩ ?_
        exact R_rl rfl rfl (mj_leaf (by simp only [s_X6_lt, if_pos h1, if_neg h2, Bool.false_eq_true, ↓reduceIte, Nat.reduceAdd, Nat.reduceMul, mj_tn0, mj_tn1, mj_tn2, mj_tn3]) (by simp only [s_X6_lt, if_pos h1, if_neg h2, Bool.false_eq_true, ↓reduceIte, Nat.reduceAdd, Nat.reduceMul, mj_tn0, mj_tn1, mj_tn2, mj_tn3]))
    · skip
      refine R_seg (φ := [¬ (y : Int64) = 0]) (pc' := 6) (L' := [.long u, mj_mk, .long e, mj_mk, .int w, .long y, mj_mk, .long (x - x / y * y), mj_mk, .long (x - x / y * y), mj_mk]) (st' := []) (σ' := (mj_KS N, I, mj_PP c d r)) 9 rfl ⟨mj6_ln (mj6_lst hx hy h1).1, trivial⟩ ?_
      rw [show s_X6_lt u e w m (k + 1) j x y I = s_X6_lt u e w m k (j + 1) y (x - x / y * y) I from by simp only [s_X6_lt, if_neg h1, Bool.false_eq_true, ↓reduceIte, Nat.reduceAdd, Nat.reduceMul, mj_tn0, mj_tn1, mj_tn2, mj_tn3]]
      exact ih (j + 1) y (x - x / y * y) (.long (x - x / y * y)) I (by omega) (by omega) (by omega) ((by have := (mj6_lst hx hy h1).1; omega)) ((mj6_lst hx hy h1).2) (Or.inl (mj6_lst hx hy h1).1)
theorem mj6_tz {y : Int64} (h : 0 ≤ y.toInt) : y.toInt + ((0 : Nat) : Int) ≤ ((y.toInt.toNat : Nat) : Int) := by omega
def s_X6_inLeastTerms (u : Int64) (e : Int64) (w : Int32) (m : Nat) (I : mj_I) : Int64 × mj_I := ((s_X6_lt u e w m m 0 u e I).1, (s_X6_lt u e w m m 0 u e I).2)
set_option maxHeartbeats 8000000 in
theorem x_X6_inLeastTerms (l : Launch) (b base : Nat) (D : va_G) (z : mj_K × (Int32 → Int32)) (N : Nat) (u : Int64) (e : Int64) (w : Int32) (m : Nat) (I : mj_I) (c d r : Nat) (hu : 0 ≤ u.toInt) (he : 0 < e.toInt) (hem : e.toInt ≤ (m : Int)) : mj_Rn l b base D z mj_m_X6_inLeastTerms 0 [.long u, mj_mk, .long e, mj_mk, .int w, mj_mk, mj_mk, mj_mk, mj_mk, mj_mk, mj_mk] [] (mj_KS N, I, mj_PP c d r) (mj_E N (some (.long (s_X6_inLeastTerms u e w m I).1)) (s_X6_inLeastTerms u e w m I).2 (mj_PP c d r)) := by
  refine R_seg (φ := []) (pc' := 6) (L' := [.long u, mj_mk, .long e, mj_mk, .int w, .long u, mj_mk, .long e, mj_mk, mj_mk, mj_mk]) (st' := []) (σ' := (mj_KS N, I, mj_PP c d r)) 4 rfl trivial ?_
  exact x_X6_lt l b base D z N u e w m c d r  m 0 u e mj_mk I (by omega) (by omega) (by omega) hu ⟨(by omega), (by omega)⟩ (Or.inr he)
def mj6_all (I : mj_I) : Nat → Nat → Int32 → Int32
  | 0, _, g => g
  | k + 1, j, g => mj6_all I k (j + 1) (g + I 61 (nI j))
def mj6_rip (I : mj_I) : Nat → Nat → Int32 → Int32
  | 0, _, f => f
  | k + 1, j, f => mj6_rip I k (j + 1) (f + (if nI j / 6 = 6 then I 61 (nI j) else 0))
theorem mj6_l32 {x : Int32} : x.toInt64.toInt = x.toInt := by
  rw [Int32.toInt_toInt64]
theorem mj6_PR_1 {m : Nat} {q g s v : Int32} {I : mj_I} {j : Nat} (h : mj6_PR 61 (I 48 q) I) (hv : ¬ v = 0 → mj6_fok (I 48 q) (nI j / 6)) : mj6_PR 61 (I 48 q) (mj_upI I 61 (nI j) v) := by
  intro x hx hn
  rw [mj_upI_eq] at hn
  by_cases hh : nI x = nI j
  · rw [if_pos hh] at hn
    rw [hh]; exact hv hn
  · rw [if_neg hh] at hn
    exact h x hx hn
def s_X6_og (q : Int32) (a : Int32) (n : Int32) (w : Int32) (f : Int32) (y : Nat) : Nat → Nat → Int32 → Int32 → mj_I → Int64 × mj_I
  | 0, j, g, e, I => ((s_X6_inLeastTerms (e : Int32).toInt64 (g : Int32).toInt64 w y I).1, (s_X6_inLeastTerms (e : Int32).toInt64 (g : Int32).toInt64 w y I).2)
  | k + 1, j, g, e, I => if ((nI j) / 6 : Int32) = 6 then (s_X6_og q a n w f y k (j + 1) (g + (I 61 (nI j))) (e + (I 61 (nI j))) I) else (s_X6_og q a n w f y k (j + 1) (g + (I 61 (nI j))) (e + 0) I)
set_option maxHeartbeats 8000000 in
theorem x_X6_og (l : Launch) (b base : Nat) (D : va_G) (z : mj_K × (Int32 → Int32)) (N : Nat) (q : Int32) (a : Int32) (n : Int32) (w : Int32) (f : Int32) (y : Nat) (c d r : Nat) : ∀ (k j : Nat) (g : Int32) (e : Int32) (I : mj_I), k = 42 - j → 0 ≤ j → j ≤ 42 + 1 → (0 < (mj6_all I k j g).toInt ∧ (mj6_all I k j g).toInt ≤ (y : Int) ∧ 0 ≤ (mj6_rip I k j e).toInt) → mj_Rn l b base D z mj_m_X6_odds 123 [.ref 42, .int q, .int a, .int n, .int w, .int f, .int g, .int e, .int (nI j)] [] (mj_KS N, I, mj_PP c d r) (mj_E N (some (.long (s_X6_og q a n w f y k j g e I).1)) (s_X6_og q a n w f y k j g e I).2 (mj_PP c d r)) := by
  intro k
  induction k with
  | zero =>
    intro j g e I hk hlo hj hA
    refine R_seg (φ := []) (pc' := 127) (L' := [.ref 42, .int q, .int a, .int n, .int w, .int f, .int g, .int e, .int (nI j)]) (st' := [.int 42, .int (nI j)]) (σ' := (mj_KS N, I, mj_PP c d r)) 2 rfl trivial ?_
    refine R_br (q := (nI j : Int32) < 42) (t := 130) (f := 174) (rest := []) rfl (fun h1 => absurd h1 (show ¬ nI j < nI 42 from nI_nlt (by omega) (by omega))) (fun h1 => ?_)
    refine R_seg (φ := []) (pc' := 182) (L' := [.ref 42, .int q, .int a, .int n, .int w, .int f, .int g, .int e, .int (nI j)]) (st' := [.int w, .long ((g : Int32).toInt64), .long ((e : Int32).toInt64)]) (σ' := (mj_KS N, I, mj_PP c d r)) 5 rfl trivial ?_
    refine R_ce (idx := 214) (mid := 141) (kind := 1) (N := N) (M' := mj_m_X6_inLeastTerms) (As := [.long ((e : Int32).toInt64), .long ((g : Int32).toInt64), .int w]) (rest := []) (I := I) (P := mj_PP c d r) (I' := (s_X6_inLeastTerms (e : Int32).toInt64 (g : Int32).toInt64 w y I).2) (P' := mj_PP c d r) (v := some (.long ((s_X6_inLeastTerms (e : Int32).toInt64 (g : Int32).toInt64 w y I).1))) rfl rfl rfl mj_mc141 mj_dc141 rfl rfl rfl rfl rfl rfl (x_X6_inLeastTerms l b base D z N (e : Int32).toInt64 (g : Int32).toInt64 w y  I c d r (by rw [mj6_l32]; exact hA.2.2) (by rw [mj6_l32]; exact hA.1) (by rw [mj6_l32]; exact hA.2.1)) ?_
    refine R_seg (φ := []) (pc' := 185) (L' := [.ref 42, .int q, .int a, .int n, .int w, .int f, .int g, .int e, .int (nI j)]) (st' := [.long ((s_X6_inLeastTerms (e : Int32).toInt64 (g : Int32).toInt64 w y I).1)]) (σ' := (mj_KS N, (s_X6_inLeastTerms (e : Int32).toInt64 (g : Int32).toInt64 w y I).2, mj_PP c d r)) 0 rfl trivial ?_
    exact R_rl rfl rfl (mj_leaf (by simp only [s_X6_og, Bool.false_eq_true, ↓reduceIte, Nat.reduceAdd, Nat.reduceMul, mj_tn0, mj_tn1, mj_tn2, mj_tn3]) (by simp only [s_X6_og, Bool.false_eq_true, ↓reduceIte, Nat.reduceAdd, Nat.reduceMul, mj_tn0, mj_tn1, mj_tn2, mj_tn3]))
  | succ k ih =>
    intro j g e I hk hlo hj hA
    have hjm : j < 42 := by omega
    have hin : mj_in (nI j) 42 := mj_in_nI (by omega) (by omega)
    refine R_seg (φ := []) (pc' := 127) (L' := [.ref 42, .int q, .int a, .int n, .int w, .int f, .int g, .int e, .int (nI j)]) (st' := [.int 42, .int (nI j)]) (σ' := (mj_KS N, I, mj_PP c d r)) 2 rfl trivial ?_
    refine R_br (q := (nI j : Int32) < 42) (t := 130) (f := 174) (rest := []) rfl (fun h1 => ?_) (fun h1 => absurd (show nI j < nI 42 from nI_lt hjm (by omega)) h1)
    refine R_seg (φ := [mj_in (nI j) 42, ¬ (6 : Int32) = 0]) (pc' := 151) (L' := [.ref 42, .int q, .int a, .int n, .int w, .int f, .int (g + (I 61 (nI j))), .int e, .int (nI j)]) (st' := [.int 6, .int ((nI j) / 6), .int e]) (σ' := (mj_KS N, I, mj_PP c d r)) 12 rfl ⟨hin, by decide, trivial⟩ ?_
    refine R_br (q := ((nI j) / 6 : Int32) = 6) (t := 154) (f := 164) (rest := [.int e]) rfl (fun h2 => ?_) (fun h2 => ?_)
    · skip
      refine R_seg (φ := [mj_in (nI j) 42]) (pc' := 123) (L' := [.ref 42, .int q, .int a, .int n, .int w, .int f, .int (g + (I 61 (nI j))), .int (e + (I 61 (nI j))), .int ((nI j) + 1)]) (st' := []) (σ' := (mj_KS N, I, mj_PP c d r)) 9 rfl ⟨hin, trivial⟩ ?_
      rw [nI_1 j]
      rw [show s_X6_og q a n w f y (k + 1) j g e I = s_X6_og q a n w f y k (j + 1) (g + (I 61 (nI j))) (e + (I 61 (nI j))) I from by simp only [s_X6_og, if_pos h2, Bool.false_eq_true, ↓reduceIte, Nat.reduceAdd, Nat.reduceMul, mj_tn0, mj_tn1, mj_tn2, mj_tn3]]
      exact ih (j + 1) (g + (I 61 (nI j))) (e + (I 61 (nI j))) I (by omega) (by omega) (by omega) ((by have h9 := hA; simp only [mj6_all, mj6_rip, if_pos h2] at h9; exact h9))
    · skip
      refine R_seg (φ := []) (pc' := 123) (L' := [.ref 42, .int q, .int a, .int n, .int w, .int f, .int (g + (I 61 (nI j))), .int (e + 0), .int ((nI j) + 1)]) (st' := []) (σ' := (mj_KS N, I, mj_PP c d r)) 5 rfl trivial ?_
      rw [nI_1 j]
      rw [show s_X6_og q a n w f y (k + 1) j g e I = s_X6_og q a n w f y k (j + 1) (g + (I 61 (nI j))) (e + 0) I from by simp only [s_X6_og, if_neg h2, Bool.false_eq_true, ↓reduceIte, Nat.reduceAdd, Nat.reduceMul, mj_tn0, mj_tn1, mj_tn2, mj_tn3]]
      exact ih (j + 1) (g + (I 61 (nI j))) (e + 0) I (by omega) (by omega) (by omega) ((by have h9 := hA; simp only [mj6_all, mj6_rip, if_neg h2] at h9; exact h9))
def s_X6_oE (q : Int32) (a : Int32) (v : Nat) (w : Int32) (f : Int32) : Nat → Nat → mj_I → mj_I
  | 0, j, I => I
  | k + 1, j, I => if (nI j : Int32) = f then (s_X6_oE q a v w f k (j + 1)  (mj_upI I 61 (nI j) 1)) else (s_X6_oE q a v w f k (j + 1)  (mj_upI I 61 (nI j) 0))
set_option maxHeartbeats 8000000 in
theorem x_X6_oE (l : Launch) (b base : Nat) (D : va_G) (z : mj_K × (Int32 → Int32)) (N : Nat) (q : Int32) (a : Int32) (v : Nat) (w : Int32) (f : Int32) (c d r : Nat) (Q : Option Value → mj_S → Prop) : ∀ (k j : Nat) (I : mj_I), k = 42 - j → 0 ≤ j → j ≤ 42 + 1 → ((∀ w_6 : Value, mj_Rn l b base D z mj_m_X6_odds 94 [.ref 42, .int q, .int a, .int (nI v), .int w, .int f, w_6, mj_mk, mj_mk] [] (mj_KS N, (s_X6_oE q a v w f k j  I), mj_PP c d r) (Q))) → mj_Rn l b base D z mj_m_X6_odds 62 [.ref 42, .int q, .int a, .int (nI v), .int w, .int f, .int (nI j), mj_mk, mj_mk] [] (mj_KS N, I, mj_PP c d r) (Q) := by
  intro k
  induction k with
  | zero =>
    intro j I hk hlo hj K
    refine R_seg (φ := []) (pc' := 66) (L' := [.ref 42, .int q, .int a, .int (nI v), .int w, .int f, .int (nI j), mj_mk, mj_mk]) (st' := [.int 42, .int (nI j)]) (σ' := (mj_KS N, I, mj_PP c d r)) 2 rfl trivial ?_
    refine R_br (q := (nI j : Int32) < 42) (t := 69) (f := 94) (rest := []) rfl (fun h1 => absurd h1 (show ¬ nI j < nI 42 from nI_nlt (by omega) (by omega))) (fun h1 => ?_)
    exact K (.int (nI j))
  | succ k ih =>
    intro j I hk hlo hj K
    have hjm : j < 42 := by omega
    have hin : mj_in (nI j) 42 := mj_in_nI (by omega) (by omega)
    refine R_seg (φ := []) (pc' := 66) (L' := [.ref 42, .int q, .int a, .int (nI v), .int w, .int f, .int (nI j), mj_mk, mj_mk]) (st' := [.int 42, .int (nI j)]) (σ' := (mj_KS N, I, mj_PP c d r)) 2 rfl trivial ?_
    refine R_br (q := (nI j : Int32) < 42) (t := 69) (f := 94) (rest := []) rfl (fun h1 => ?_) (fun h1 => absurd (show nI j < nI 42 from nI_lt hjm (by omega)) h1)
    refine R_seg (φ := []) (pc' := 79) (L' := [.ref 42, .int q, .int a, .int (nI v), .int w, .int f, .int (nI j), mj_mk, mj_mk]) (st' := [.int f, .int (nI j), .int (nI j), .ref 61]) (σ' := (mj_KS N, I, mj_PP c d r)) 5 rfl trivial ?_
    refine R_br (q := (nI j : Int32) = f) (t := 82) (f := 86) (rest := [.int (nI j), .ref 61]) rfl (fun h2 => ?_) (fun h2 => ?_)
    · skip
      refine R_seg (φ := [mj_in (nI j) 42]) (pc' := 62) (L' := [.ref 42, .int q, .int a, .int (nI v), .int w, .int f, .int ((nI j) + 1), mj_mk, mj_mk]) (st' := []) (σ' := (mj_KS N, (mj_upI I 61 (nI j) 1), mj_PP c d r)) 5 rfl ⟨hin, trivial⟩ ?_
      rw [nI_1 j]
      rw [show s_X6_oE q a v w f (k + 1) j  I = s_X6_oE q a v w f k (j + 1)  (mj_upI I 61 (nI j) 1) from by simp only [s_X6_oE, if_pos h2, Bool.false_eq_true, ↓reduceIte, Nat.reduceAdd, Nat.reduceMul, mj_tn0, mj_tn1, mj_tn2, mj_tn3]] at K
      exact ih (j + 1)  (mj_upI I 61 (nI j) 1) (by omega) (by omega) (by omega) K
    · skip
      refine R_seg (φ := [mj_in (nI j) 42]) (pc' := 62) (L' := [.ref 42, .int q, .int a, .int (nI v), .int w, .int f, .int ((nI j) + 1), mj_mk, mj_mk]) (st' := []) (σ' := (mj_KS N, (mj_upI I 61 (nI j) 0), mj_PP c d r)) 4 rfl ⟨hin, trivial⟩ ?_
      rw [nI_1 j]
      rw [show s_X6_oE q a v w f (k + 1) j  I = s_X6_oE q a v w f k (j + 1)  (mj_upI I 61 (nI j) 0) from by simp only [s_X6_oE, if_neg h2, Bool.false_eq_true, ↓reduceIte, Nat.reduceAdd, Nat.reduceMul, mj_tn0, mj_tn1, mj_tn2, mj_tn3]] at K
      exact ih (j + 1)  (mj_upI I 61 (nI j) 0) (by omega) (by omega) (by omega) K
def s_X6_oF (q : Int32) (a : Int32) (v : Nat) (w : Int32) (f : Int32) (m : Nat) : Nat → Nat → mj_I → mj_I
  | 0, j, I => I
  | k + 1, j, I => s_X6_oF q a v w f m k (j + 1)  (s_X6_goRows m q I)
set_option maxHeartbeats 8000000 in
theorem x_X6_oF (l : Launch) (b base : Nat) (D : va_G) (z : mj_K × (Int32 → Int32)) (N : Nat) (q : Int32) (a : Int32) (v : Nat) (w : Int32) (f : Int32) (m : Nat) (c d r : Nat) (Q : Option Value → mj_S → Prop) (hm : m ≤ 6) (hq : mj_in q 3) (hv : v ≤ 6) : ∀ (k j : Nat) (I : mj_I), k = v - j → 1 ≤ j → j ≤ v + 1 → (I 42 5 = nI m) → (mj6_PR 61 (I 48 q) I) → ((∀ w_6 : Value, mj_Rn l b base D z mj_m_X6_odds 114 [.ref 42, .int q, .int a, .int (nI v), .int w, .int f, w_6, mj_mk, mj_mk] [] (mj_KS N, (s_X6_oF q a v w f m k j  I), mj_PP c d r) (Q))) → mj_Rn l b base D z mj_m_X6_odds 97 [.ref 42, .int q, .int a, .int (nI v), .int w, .int f, .int (nI j), mj_mk, mj_mk] [] (mj_KS N, I, mj_PP c d r) (Q) := by
  intro k
  induction k with
  | zero =>
    intro j I hk hlo hj hS hR K
    refine R_seg (φ := []) (pc' := 100) (L' := [.ref 42, .int q, .int a, .int (nI v), .int w, .int f, .int (nI j), mj_mk, mj_mk]) (st' := [.int (nI v), .int (nI j)]) (σ' := (mj_KS N, I, mj_PP c d r)) 2 rfl trivial ?_
    refine R_br (q := (nI j : Int32) < nI v) (t := 103) (f := 114) (rest := []) rfl (fun h1 => absurd h1 (by exact nI_nlt (by omega) (by omega))) (fun h1 => ?_)
    exact K (.int (nI j))
  | succ k ih =>
    intro j I hk hlo hj hS hR K
    have hjm : j < v := by omega
    refine R_seg (φ := []) (pc' := 100) (L' := [.ref 42, .int q, .int a, .int (nI v), .int w, .int f, .int (nI j), mj_mk, mj_mk]) (st' := [.int (nI v), .int (nI j)]) (σ' := (mj_KS N, I, mj_PP c d r)) 2 rfl trivial ?_
    refine R_br (q := (nI j : Int32) < nI v) (t := 103) (f := 114) (rest := []) rfl (fun h1 => ?_) (fun h1 => absurd (by exact nI_lt hjm (by omega)) h1)
    refine R_seg (φ := []) (pc' := 105) (L' := [.ref 42, .int q, .int a, .int (nI v), .int w, .int f, .int (nI j), mj_mk, mj_mk]) (st' := [.int q, .ref 42]) (σ' := (mj_KS N, I, mj_PP c d r)) 2 rfl trivial ?_
    refine R_ce (idx := 211) (mid := 142) (kind := 0) (N := N) (M' := mj_m_X6_goRows) (As := [.ref 42, .int q]) (rest := []) (I := I) (P := mj_PP c d r) (I' := (s_X6_goRows m q I)) (P' := mj_PP c d r) (v := none) rfl rfl rfl mj_mc142 mj_dc142 rfl rfl rfl rfl rfl rfl (x_X6_goRows l b base D z N m q  I c d r hm hq hS hR) ?_
    refine R_seg (φ := []) (pc' := 97) (L' := [.ref 42, .int q, .int a, .int (nI v), .int w, .int f, .int ((nI j) + 1), mj_mk, mj_mk]) (st' := []) (σ' := (mj_KS N, (s_X6_goRows m q I), mj_PP c d r)) 2 rfl trivial ?_
    rw [nI_1 j]
    rw [show s_X6_oF q a v w f m (k + 1) j  I = s_X6_oF q a v w f m k (j + 1)  (s_X6_goRows m q I) from by simp only [s_X6_oF, Bool.false_eq_true, ↓reduceIte, Nat.reduceAdd, Nat.reduceMul, mj_tn0, mj_tn1, mj_tn2, mj_tn3]] at K
    exact ih (j + 1)  (s_X6_goRows m q I) (by omega) (by omega) (by omega) ((congrFun (mj6_gw_ne _ _ _ _ (by decide) (by decide)) _).trans hS) (mj6_gw_R hm hS hR) K
theorem mj6_oE_ne (q a : Int32) (v : Nat) (w f : Int32) (x : Nat) (hx : x ≠ 61) : ∀ (k j : Nat) (I : mj_I), s_X6_oE q a v w f k j I x = I x := by
  intro k
  induction k with
  | zero => intro j I; rfl
  | succ k ih =>
    intro j I
    rw [s_X6_oE]
    split
    all_goals rw [ih, mj_upI_ne hx]
theorem mj6_oE_v (q a : Int32) (v : Nat) (w f : Int32) (t : Nat) (ht : t < 42) : ∀ (k j : Nat) (I : mj_I), j + k ≤ 42 → ((t < j → I 61 (nI t) = if nI t = f then 1 else 0) → t < j + k → s_X6_oE q a v w f k j I 61 (nI t) = if nI t = f then 1 else 0) := by
  intro k
  induction k with
  | zero => intro j I _ h h2; exact h h2
  | succ k ih =>
    intro j I h3 h h2
    rw [s_X6_oE]
    by_cases hf : nI j = f
    · rw [if_pos hf]
      refine ih (j + 1) _ (by omega) (fun h4 => ?_) (by omega)
      rw [mj_upI_eq]
      by_cases hj : nI t = nI j
      · rw [if_pos hj, hj, if_pos hf]
      · rw [if_neg hj]
        refine h ?_
        rcases Nat.lt_or_ge t j with q | q
        · exact q
        · exact absurd (congrArg nI (show t = j by omega)) hj
    · rw [if_neg hf]
      refine ih (j + 1) _ (by omega) (fun h4 => ?_) (by omega)
      rw [mj_upI_eq]
      by_cases hj : nI t = nI j
      · rw [if_pos hj, hj, if_neg hf]
      · rw [if_neg hj]
        refine h ?_
        rcases Nat.lt_or_ge t j with q | q
        · exact q
        · exact absurd (congrArg nI (show t = j by omega)) hj
theorem mj6_oE_R {q a : Int32} {v : Nat} {w g s : Int32} {I : mj_I} (hg : mj6_fok (I 48 q) g) (hs : mj_in s 6) : mj6_PR 61 (s_X6_oE q a v w (6 * g + s) 42 0 I 48 q) (s_X6_oE q a v w (6 * g + s) 42 0 I) := by
  intro x hx hn
  rw [mj6_oE_ne _ _ _ _ _ 48 (by decide)]
  rw [mj6_oE_v _ _ _ _ _ x hx 42 0 I (by omega) (fun q => absurd q (by omega)) (by omega)] at hn
  by_cases hh : nI x = 6 * g + s
  · rw [hh, (mj6_ix hg.1 hs).2]; exact hg
  · rw [if_neg hh] at hn; exact absurd rfl hn
theorem mj6_fok0 (K : Int32) : mj6_fok K 0 := ⟨mj_in_d (by decide), Or.inr (Or.inl rfl)⟩
theorem mj6_v6 {n : Int32} {I : mj_I} (h : ¬ s_X6_within n 1 6 I = 0) : ∃ v : Nat, 1 ≤ v ∧ v ≤ 6 ∧ n = nI v := by
  have a := mj6_wi h
  have e1 : (1 : Int32).toInt = 1 := by decide
  have e6 : (6 : Int32).toInt = 6 := by decide
  exact ⟨n.toInt.toNat, by omega, by omega, mj_ofI (by rw [nI_toInt (by omega)]; omega)⟩
/-- the rows behind the last day -/
def mj6_oM (m : Nat) (q a : Int32) (v : Nat) (w : Int32) (I : mj_I) : mj_I := s_X6_oF q a v w (6 * (s_X6_onBy q 0 (I 46 a) I) + a) m (v - 1) 1 (s_X6_oE q a v w (6 * (s_X6_onBy q 0 (I 46 a) I) + a) 42 0 I)
def mj6_HA (I : mj_I) (y : Nat) : Prop := 0 < (mj6_all I 42 0 0).toInt ∧ (mj6_all I 42 0 0).toInt ≤ (y : Int) ∧ 0 ≤ (mj6_rip I 42 0 0).toInt
def s_X6_odds (m : Nat) (y : Nat) (q : Int32) (a : Int32) (n : Int32) (w : Int32) (I : mj_I) : Int64 × mj_I := if ((s_X6_isPlant q I) : Int32) = 0 then ((-9223372036854775808), I) else (if ((s_X6_isStreet a I) : Int32) = 0 then ((-9223372036854775808), I) else (if ((s_X6_within n 1 6 I) : Int32) = 0 then ((-9223372036854775808), I) else (if ((s_X6_within w 0 1 I) : Int32) = 0 then ((-9223372036854775808), I) else ((s_X6_og q a (n) w ((6 * (s_X6_onBy q 0 (I 46 a) I)) + a) y 42 0 0 0 (s_X6_oF q a n.toNatClampNeg w ((6 * (s_X6_onBy q 0 (I 46 a) I)) + a) m (n.toNatClampNeg - 1) 1  (s_X6_oE q a n.toNatClampNeg w ((6 * (s_X6_onBy q 0 (I 46 a) I)) + a) 42 0  I))).1, (s_X6_og q a (n) w ((6 * (s_X6_onBy q 0 (I 46 a) I)) + a) y 42 0 0 0 (s_X6_oF q a n.toNatClampNeg w ((6 * (s_X6_onBy q 0 (I 46 a) I)) + a) m (n.toNatClampNeg - 1) 1  (s_X6_oE q a n.toNatClampNeg w ((6 * (s_X6_onBy q 0 (I 46 a) I)) + a) 42 0  I))).2))))
set_option maxHeartbeats 8000000 in
theorem x_X6_odds (l : Launch) (b base : Nat) (D : va_G) (z : mj_K × (Int32 → Int32)) (N : Nat) (m : Nat) (y : Nat) (q : Int32) (a : Int32) (n : Int32) (w : Int32) (I : mj_I) (c d r : Nat) (hm : m ≤ 6) (hS : I 42 5 = nI m) (hP : (I 42 6).toInt ≤ 3) (hO : ∀ v : Nat, n = nI v → 1 ≤ v → v ≤ 6 → ¬ s_X6_isPlant q I = 0 → ¬ s_X6_isStreet a I = 0 → mj6_HA (mj6_oM m q a v w I) y) : mj_Rn l b base D z mj_m_X6_odds 0 [.ref 42, .int q, .int a, .int n, .int w, mj_mk, mj_mk, mj_mk, mj_mk] [] (mj_KS N, I, mj_PP c d r) (mj_E N (some (.long (s_X6_odds m y q a n w I).1)) (s_X6_odds m y q a n w I).2 (mj_PP c d r)) := by
  refine R_seg (φ := []) (pc' := 2) (L' := [.ref 42, .int q, .int a, .int n, .int w, mj_mk, mj_mk, mj_mk, mj_mk]) (st' := [.int q, .ref 42]) (σ' := (mj_KS N, I, mj_PP c d r)) 2 rfl trivial ?_
  refine R_ce (idx := 140) (mid := 100) (kind := 0) (N := N) (M' := mj_m_X6_isPlant) (As := [.ref 42, .int q]) (rest := []) (I := I) (P := mj_PP c d r) (I' := I) (P' := mj_PP c d r) (v := some (.int (s_X6_isPlant q I))) rfl rfl rfl mj_mc100 mj_dc100 rfl rfl rfl rfl rfl rfl (x_X6_isPlant l b base D z N q I c d r) ?_
  refine R_seg (φ := []) (pc' := 5) (L' := [.ref 42, .int q, .int a, .int n, .int w, mj_mk, mj_mk, mj_mk, mj_mk]) (st' := [.int (s_X6_isPlant q I)]) (σ' := (mj_KS N, I, mj_PP c d r)) 0 rfl trivial ?_
  refine R_br (q := ((s_X6_isPlant q I) : Int32) = 0) (t := 36) (f := 8) (rest := []) rfl (fun h1 => ?_) (fun h1 => ?_)
  · skip
    refine R_seg (φ := []) (pc' := 39) (L' := [.ref 42, .int q, .int a, .int n, .int w, mj_mk, mj_mk, mj_mk, mj_mk]) (st' := [.long (-9223372036854775808)]) (σ' := (mj_KS N, I, mj_PP c d r)) 1 rfl trivial ?_
    exact R_rl rfl rfl (mj_leaf (by simp only [s_X6_odds, if_pos h1, Bool.false_eq_true, ↓reduceIte, Nat.reduceAdd, Nat.reduceMul, mj_tn0, mj_tn1, mj_tn2, mj_tn3]) (by simp only [s_X6_odds, if_pos h1, Bool.false_eq_true, ↓reduceIte, Nat.reduceAdd, Nat.reduceMul, mj_tn0, mj_tn1, mj_tn2, mj_tn3]))
  · skip
    refine R_seg (φ := []) (pc' := 10) (L' := [.ref 42, .int q, .int a, .int n, .int w, mj_mk, mj_mk, mj_mk, mj_mk]) (st' := [.int a, .ref 42]) (σ' := (mj_KS N, I, mj_PP c d r)) 2 rfl trivial ?_
    refine R_ce (idx := 137) (mid := 99) (kind := 0) (N := N) (M' := mj_m_X6_isStreet) (As := [.ref 42, .int a]) (rest := []) (I := I) (P := mj_PP c d r) (I' := I) (P' := mj_PP c d r) (v := some (.int (s_X6_isStreet a I))) rfl rfl rfl mj_mc99 mj_dc99 rfl rfl rfl rfl rfl rfl (x_X6_isStreet l b base D z N a I c d r) ?_
    refine R_seg (φ := []) (pc' := 13) (L' := [.ref 42, .int q, .int a, .int n, .int w, mj_mk, mj_mk, mj_mk, mj_mk]) (st' := [.int (s_X6_isStreet a I)]) (σ' := (mj_KS N, I, mj_PP c d r)) 0 rfl trivial ?_
    refine R_br (q := ((s_X6_isStreet a I) : Int32) = 0) (t := 36) (f := 16) (rest := []) rfl (fun h2 => ?_) (fun h2 => ?_)
    · skip
      refine R_seg (φ := []) (pc' := 39) (L' := [.ref 42, .int q, .int a, .int n, .int w, mj_mk, mj_mk, mj_mk, mj_mk]) (st' := [.long (-9223372036854775808)]) (σ' := (mj_KS N, I, mj_PP c d r)) 1 rfl trivial ?_
      exact R_rl rfl rfl (mj_leaf (by simp only [s_X6_odds, if_neg h1, if_pos h2, Bool.false_eq_true, ↓reduceIte, Nat.reduceAdd, Nat.reduceMul, mj_tn0, mj_tn1, mj_tn2, mj_tn3]) (by simp only [s_X6_odds, if_neg h1, if_pos h2, Bool.false_eq_true, ↓reduceIte, Nat.reduceAdd, Nat.reduceMul, mj_tn0, mj_tn1, mj_tn2, mj_tn3]))
    · skip
      refine R_seg (φ := []) (pc' := 20) (L' := [.ref 42, .int q, .int a, .int n, .int w, mj_mk, mj_mk, mj_mk, mj_mk]) (st' := [.int 6, .int 1, .int n]) (σ' := (mj_KS N, I, mj_PP c d r)) 3 rfl trivial ?_
      refine R_ce (idx := 76) (mid := 95) (kind := 1) (N := N) (M' := mj_m_X6_within) (As := [.int n, .int 1, .int 6]) (rest := []) (I := I) (P := mj_PP c d r) (I' := I) (P' := mj_PP c d r) (v := some (.int (s_X6_within n 1 6 I))) rfl rfl rfl mj_mc95 mj_dc95 rfl rfl rfl rfl rfl rfl (x_X6_within l b base D z N n 1 6 I c d r) ?_
      refine R_seg (φ := []) (pc' := 23) (L' := [.ref 42, .int q, .int a, .int n, .int w, mj_mk, mj_mk, mj_mk, mj_mk]) (st' := [.int (s_X6_within n 1 6 I)]) (σ' := (mj_KS N, I, mj_PP c d r)) 0 rfl trivial ?_
      refine R_br (q := ((s_X6_within n 1 6 I) : Int32) = 0) (t := 36) (f := 26) (rest := []) rfl (fun h3 => ?_) (fun h3 => ?_)
      · skip
        refine R_seg (φ := []) (pc' := 39) (L' := [.ref 42, .int q, .int a, .int n, .int w, mj_mk, mj_mk, mj_mk, mj_mk]) (st' := [.long (-9223372036854775808)]) (σ' := (mj_KS N, I, mj_PP c d r)) 1 rfl trivial ?_
        exact R_rl rfl rfl (mj_leaf (by simp only [s_X6_odds, if_neg h1, if_neg h2, if_pos h3, Bool.false_eq_true, ↓reduceIte, Nat.reduceAdd, Nat.reduceMul, mj_tn0, mj_tn1, mj_tn2, mj_tn3]) (by simp only [s_X6_odds, if_neg h1, if_neg h2, if_pos h3, Bool.false_eq_true, ↓reduceIte, Nat.reduceAdd, Nat.reduceMul, mj_tn0, mj_tn1, mj_tn2, mj_tn3]))
      · skip
        refine R_seg (φ := []) (pc' := 30) (L' := [.ref 42, .int q, .int a, .int n, .int w, mj_mk, mj_mk, mj_mk, mj_mk]) (st' := [.int 1, .int 0, .int w]) (σ' := (mj_KS N, I, mj_PP c d r)) 3 rfl trivial ?_
        refine R_ce (idx := 76) (mid := 95) (kind := 1) (N := N) (M' := mj_m_X6_within) (As := [.int w, .int 0, .int 1]) (rest := []) (I := I) (P := mj_PP c d r) (I' := I) (P' := mj_PP c d r) (v := some (.int (s_X6_within w 0 1 I))) rfl rfl rfl mj_mc95 mj_dc95 rfl rfl rfl rfl rfl rfl (x_X6_within l b base D z N w 0 1 I c d r) ?_
        refine R_seg (φ := []) (pc' := 33) (L' := [.ref 42, .int q, .int a, .int n, .int w, mj_mk, mj_mk, mj_mk, mj_mk]) (st' := [.int (s_X6_within w 0 1 I)]) (σ' := (mj_KS N, I, mj_PP c d r)) 0 rfl trivial ?_
        refine R_br (q := ((s_X6_within w 0 1 I) : Int32) = 0) (t := 36) (f := 40) (rest := []) rfl (fun h4 => ?_) (fun h4 => ?_)
        · skip
          refine R_seg (φ := []) (pc' := 39) (L' := [.ref 42, .int q, .int a, .int n, .int w, mj_mk, mj_mk, mj_mk, mj_mk]) (st' := [.long (-9223372036854775808)]) (σ' := (mj_KS N, I, mj_PP c d r)) 1 rfl trivial ?_
          exact R_rl rfl rfl (mj_leaf (by simp only [s_X6_odds, if_neg h1, if_neg h2, if_neg h3, if_pos h4, Bool.false_eq_true, ↓reduceIte, Nat.reduceAdd, Nat.reduceMul, mj_tn0, mj_tn1, mj_tn2, mj_tn3]) (by simp only [s_X6_odds, if_neg h1, if_neg h2, if_neg h3, if_pos h4, Bool.false_eq_true, ↓reduceIte, Nat.reduceAdd, Nat.reduceMul, mj_tn0, mj_tn1, mj_tn2, mj_tn3]))
        · skip
          obtain ⟨v, hv1, hv, rfl⟩ := mj6_v6 h3
          · skip
            refine R_seg (φ := [mj_in a 6]) (pc' := 51) (L' := [.ref 42, .int q, .int a, .int ((nI v)), .int w, mj_mk, mj_mk, mj_mk, mj_mk]) (st' := [.int (I 46 a), .int 0, .int q, .ref 42, .int 6]) (σ' := (mj_KS N, I, mj_PP c d r)) 8 rfl ⟨(mj6_st h2 (mj6_S6 hS hm)), trivial⟩ ?_
            refine R_ce (idx := 149) (mid := 115) (kind := 0) (N := N) (M' := mj_m_X6_onBy) (As := [.ref 42, .int q, .int 0, .int (I 46 a)]) (rest := [.int 6]) (I := I) (P := mj_PP c d r) (I' := I) (P' := mj_PP c d r) (v := some (.int (s_X6_onBy q 0 (I 46 a) I))) rfl rfl rfl mj_mc115 mj_dc115 rfl rfl rfl rfl rfl rfl (x_X6_onBy l b base D z N q 0 (I 46 a) I c d r ((mj6_pl h1 hP)) ((mj_in_d (by decide)))) ?_
            refine R_seg (φ := []) (pc' := 62) (L' := [.ref 42, .int q, .int a, .int ((nI v)), .int w, .int ((6 * (s_X6_onBy q 0 (I 46 a) I)) + a), .int 0, mj_mk, mj_mk]) (st' := []) (σ' := (mj_KS N, I, mj_PP c d r)) 6 rfl trivial ?_
            refine x_X6_oE l b base D z N q a v w ((6 * (s_X6_onBy q 0 (I 46 a) I)) + a) c d r _  42 0  I (by omega) (by omega) (by omega) ?_
            intro w_6
            refine R_seg (φ := []) (pc' := 97) (L' := [.ref 42, .int q, .int a, .int ((nI v)), .int w, .int ((6 * (s_X6_onBy q 0 (I 46 a) I)) + a), .int 1, mj_mk, mj_mk]) (st' := []) (σ' := (mj_KS N, (s_X6_oE q a v w ((6 * (s_X6_onBy q 0 (I 46 a) I)) + a) 42 0  I), mj_PP c d r)) 2 rfl trivial ?_
            refine x_X6_oF l b base D z N q a v w ((6 * (s_X6_onBy q 0 (I 46 a) I)) + a) m c d r _ hm (mj6_pl h1 hP) hv (v - 1) 1  (s_X6_oE q a v w ((6 * (s_X6_onBy q 0 (I 46 a) I)) + a) 42 0  I) (by omega) (by omega) (by omega) ((congrFun (mj6_oE_ne _ _ _ _ _ _ (by decide) _ _ _) _).trans hS) (mj6_oE_R (mj6_on (mj6_fok0 _)) (mj6_st h2 (mj6_S6 hS hm))) ?_
            intro w_6
            refine R_seg (φ := []) (pc' := 123) (L' := [.ref 42, .int q, .int a, .int ((nI v)), .int w, .int ((6 * (s_X6_onBy q 0 (I 46 a) I)) + a), .int 0, .int 0, .int 0]) (st' := []) (σ' := (mj_KS N, (s_X6_oF q a v w ((6 * (s_X6_onBy q 0 (I 46 a) I)) + a) m (v - 1) 1  (s_X6_oE q a v w ((6 * (s_X6_onBy q 0 (I 46 a) I)) + a) 42 0  I)), mj_PP c d r)) 6 rfl trivial ?_
            simp only [s_X6_odds, mj_tnm (show v < 2147483648 by omega), if_neg h1, if_neg h2, if_neg h3, if_neg h4, Bool.false_eq_true, ↓reduceIte, Nat.reduceAdd, Nat.reduceMul, mj_tn0, mj_tn1, mj_tn2, mj_tn3]
            exact x_X6_og l b base D z N q a ((nI v)) w ((6 * (s_X6_onBy q 0 (I 46 a) I)) + a) y c d r  42 0 0 0 (s_X6_oF q a v w ((6 * (s_X6_onBy q 0 (I 46 a) I)) + a) m (v - 1) 1  (s_X6_oE q a v w ((6 * (s_X6_onBy q 0 (I 46 a) I)) + a) 42 0  I)) (by omega) (by omega) (by omega) (hO v rfl hv1 hv h1 h2)
