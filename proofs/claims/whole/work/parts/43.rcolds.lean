/-! the reference: colds, counts -/
def s_X6_f3 (a : Int32) (q : Int32) (m : Nat) (s : Nat) : Nat → Nat → mj_I → mj_I
  | 0, j, I => I
  | k + 1, j, I => if (I 58 (nI s) : Int32) = (-9) then I else (if ((s_X6_mayGo (nI s) (nI j) I) : Int32) = 0 then (s_X6_f3 a q m s k (j + 1)  I) else (if (I 58 (nI j) : Int32) = (-9) then (s_X6_f3 a q m s k (j + 1)  (mj_upI I 58 (nI j) ((I 58 (nI s)) + (s_X6_colds (nI s) (nI j) I)))) else (if ((I 58 (nI s)) + (s_X6_colds (nI s) (nI j) I) : Int32) < I 58 (nI j) then (s_X6_f3 a q m s k (j + 1)  (mj_upI I 58 (nI j) ((I 58 (nI s)) + (s_X6_colds (nI s) (nI j) I)))) else (s_X6_f3 a q m s k (j + 1)  I))))
set_option maxHeartbeats 8000000 in
theorem x_X6_f3 (l : Launch) (b base : Nat) (D : va_G) (z : mj_K × (Int32 → Int32)) (N : Nat) (a : Int32) (q : Int32) (m : Nat) (s : Nat) (c d r : Nat) (Q : Option Value → mj_S → Prop) (hm : m ≤ 6) (hs6 : mj_in (nI s) 6) : ∀ (k j : Nat) (w5 : Value) (I : mj_I), k = m - j → 0 ≤ j → j ≤ m + 1 → (I 42 5 = nI m) → ((∀ w_4 w_5 : Value, mj_Rn l b base D z mj_m_X6_findColds 141 [.ref 42, .int a, .int q, .int (nI s), w_4, w_5] [] (mj_KS N, (s_X6_f3 a q m s k j  I), mj_PP c d r) (Q))) → mj_Rn l b base D z mj_m_X6_findColds 56 [.ref 42, .int a, .int q, .int (nI s), .int (nI j), w5] [] (mj_KS N, I, mj_PP c d r) (Q) := by
  intro k
  induction k with
  | zero =>
    intro j w5 I hk hlo hj hS K
    refine R_seg (φ := []) (pc' := 62) (L' := [.ref 42, .int a, .int q, .int (nI s), .int (nI j), w5]) (st' := [.int (I 42 5), .int (nI j)]) (σ' := (mj_KS N, I, mj_PP c d r)) 3 rfl trivial ?_
    refine R_br (q := (nI j : Int32) < I 42 5) (t := 65) (f := 141) (rest := []) rfl (fun h1 => absurd h1 (by rw [hS]; exact nI_nlt (by omega) (by omega))) (fun h1 => ?_)
    exact K (.int (nI j)) w5
  | succ k ih =>
    intro j w5 I hk hlo hj hS K
    have hjm : j < m := by omega
    have hin : mj_in (nI j) 6 := mj_in_nI (by omega) (by omega)
    refine R_seg (φ := []) (pc' := 62) (L' := [.ref 42, .int a, .int q, .int (nI s), .int (nI j), w5]) (st' := [.int (I 42 5), .int (nI j)]) (σ' := (mj_KS N, I, mj_PP c d r)) 3 rfl trivial ?_
    refine R_br (q := (nI j : Int32) < I 42 5) (t := 65) (f := 141) (rest := []) rfl (fun h1 => ?_) (fun h1 => absurd (by rw [hS]; exact nI_lt hjm (by omega)) h1)
    refine R_seg (φ := [mj_in (nI s) 6]) (pc' := 73) (L' := [.ref 42, .int a, .int q, .int (nI s), .int (nI j), w5]) (st' := [.int (-9), .int (I 58 (nI s))]) (σ' := (mj_KS N, I, mj_PP c d r)) 5 rfl ⟨hs6, trivial⟩ ?_
    refine R_br (q := (I 58 (nI s) : Int32) = (-9)) (t := 141) (f := 76) (rest := []) rfl (fun h2 => ?_) (fun h2 => ?_)
    · skip
      rw [show s_X6_f3 a q m s (k + 1) j  I = I from by simp only [s_X6_f3, if_pos h2, Bool.false_eq_true, ↓reduceIte, Nat.reduceAdd, Nat.reduceMul, mj_tn0, mj_tn1, mj_tn2, mj_tn3]] at K
      exact K (.int (nI j)) w5
    · skip
      refine R_seg (φ := [mj_in (nI s) 6]) (pc' := 86) (L' := [.ref 42, .int a, .int q, .int (nI s), .int (nI j), w5]) (st' := [.int (nI j), .int (nI s), .ref 42, .int (I 58 (nI s))]) (σ' := (mj_KS N, I, mj_PP c d r)) 7 rfl ⟨hs6, trivial⟩ ?_
      refine R_ce (idx := 171) (mid := 114) (kind := 0) (N := N) (M' := mj_m_X6_colds) (As := [.ref 42, .int (nI s), .int (nI j)]) (rest := [.int (I 58 (nI s))]) (I := I) (P := mj_PP c d r) (I' := I) (P' := mj_PP c d r) (v := some (.int (s_X6_colds (nI s) (nI j) I))) rfl rfl rfl mj_mc114 mj_dc114 rfl rfl rfl rfl rfl rfl (x_X6_colds l b base D z N (nI s) (nI j) I c d r (hs6) (hin)) ?_
      refine R_seg (φ := []) (pc' := 96) (L' := [.ref 42, .int a, .int q, .int (nI s), .int (nI j), .int ((I 58 (nI s)) + (s_X6_colds (nI s) (nI j) I))]) (st' := [.int (nI j), .int (nI s), .ref 42]) (σ' := (mj_KS N, I, mj_PP c d r)) 5 rfl trivial ?_
      refine R_ce (idx := 152) (mid := 113) (kind := 0) (N := N) (M' := mj_m_X6_mayGo) (As := [.ref 42, .int (nI s), .int (nI j)]) (rest := []) (I := I) (P := mj_PP c d r) (I' := I) (P' := mj_PP c d r) (v := some (.int (s_X6_mayGo (nI s) (nI j) I))) rfl rfl rfl mj_mc113 mj_dc113 rfl rfl rfl rfl rfl rfl (x_X6_mayGo l b base D z N (nI s) (nI j) I c d r (hs6)) ?_
      refine R_seg (φ := []) (pc' := 99) (L' := [.ref 42, .int a, .int q, .int (nI s), .int (nI j), .int ((I 58 (nI s)) + (s_X6_colds (nI s) (nI j) I))]) (st' := [.int (s_X6_mayGo (nI s) (nI j) I)]) (σ' := (mj_KS N, I, mj_PP c d r)) 0 rfl trivial ?_
      refine R_br (q := ((s_X6_mayGo (nI s) (nI j) I) : Int32) = 0) (t := 135) (f := 102) (rest := []) rfl (fun h3 => ?_) (fun h3 => ?_)
      · skip
        refine R_seg (φ := []) (pc' := 56) (L' := [.ref 42, .int a, .int q, .int (nI s), .int ((nI j) + 1), .int ((I 58 (nI s)) + (s_X6_colds (nI s) (nI j) I))]) (st' := []) (σ' := (mj_KS N, I, mj_PP c d r)) 2 rfl trivial ?_
        rw [nI_1 j]
        rw [show s_X6_f3 a q m s (k + 1) j  I = s_X6_f3 a q m s k (j + 1)  I from by simp only [s_X6_f3, if_neg h2, if_pos h3, Bool.false_eq_true, ↓reduceIte, Nat.reduceAdd, Nat.reduceMul, mj_tn0, mj_tn1, mj_tn2, mj_tn3]] at K
        exact ih (j + 1)  (.int ((I 58 (nI s)) + (s_X6_colds (nI s) (nI j) I))) I (by omega) (by omega) (by omega) (hS) K
      · skip
        refine R_seg (φ := [mj_in (nI j) 6]) (pc' := 111) (L' := [.ref 42, .int a, .int q, .int (nI s), .int (nI j), .int ((I 58 (nI s)) + (s_X6_colds (nI s) (nI j) I))]) (st' := [.int (-9), .int (I 58 (nI j))]) (σ' := (mj_KS N, I, mj_PP c d r)) 5 rfl ⟨hin, trivial⟩ ?_
        refine R_br (q := (I 58 (nI j) : Int32) = (-9)) (t := 126) (f := 114) (rest := []) rfl (fun h4 => ?_) (fun h4 => ?_)
        · skip
          refine R_seg (φ := [mj_in (nI j) 6]) (pc' := 56) (L' := [.ref 42, .int a, .int q, .int (nI s), .int ((nI j) + 1), .int ((I 58 (nI s)) + (s_X6_colds (nI s) (nI j) I))]) (st' := []) (σ' := (mj_KS N, (mj_upI I 58 (nI j) ((I 58 (nI s)) + (s_X6_colds (nI s) (nI j) I))), mj_PP c d r)) 7 rfl ⟨hin, trivial⟩ ?_
          rw [nI_1 j]
          rw [show s_X6_f3 a q m s (k + 1) j  I = s_X6_f3 a q m s k (j + 1)  (mj_upI I 58 (nI j) ((I 58 (nI s)) + (s_X6_colds (nI s) (nI j) I))) from by simp only [s_X6_f3, if_neg h2, if_neg h3, if_pos h4, Bool.false_eq_true, ↓reduceIte, Nat.reduceAdd, Nat.reduceMul, mj_tn0, mj_tn1, mj_tn2, mj_tn3]] at K
          exact ih (j + 1)  (.int ((I 58 (nI s)) + (s_X6_colds (nI s) (nI j) I))) (mj_upI I 58 (nI j) ((I 58 (nI s)) + (s_X6_colds (nI s) (nI j) I))) (by omega) (by omega) (by omega) (hS) K
        · skip
          refine R_seg (φ := [mj_in (nI j) 6]) (pc' := 123) (L' := [.ref 42, .int a, .int q, .int (nI s), .int (nI j), .int ((I 58 (nI s)) + (s_X6_colds (nI s) (nI j) I))]) (st' := [.int (I 58 (nI j)), .int ((I 58 (nI s)) + (s_X6_colds (nI s) (nI j) I))]) (σ' := (mj_KS N, I, mj_PP c d r)) 5 rfl ⟨hin, trivial⟩ ?_
          refine R_br (q := ((I 58 (nI s)) + (s_X6_colds (nI s) (nI j) I) : Int32) < I 58 (nI j)) (t := 126) (f := 135) (rest := []) rfl (fun h5 => ?_) (fun h5 => ?_)
          · skip
            refine R_seg (φ := [mj_in (nI j) 6]) (pc' := 56) (L' := [.ref 42, .int a, .int q, .int (nI s), .int ((nI j) + 1), .int ((I 58 (nI s)) + (s_X6_colds (nI s) (nI j) I))]) (st' := []) (σ' := (mj_KS N, (mj_upI I 58 (nI j) ((I 58 (nI s)) + (s_X6_colds (nI s) (nI j) I))), mj_PP c d r)) 7 rfl ⟨hin, trivial⟩ ?_
            rw [nI_1 j]
            rw [show s_X6_f3 a q m s (k + 1) j  I = s_X6_f3 a q m s k (j + 1)  (mj_upI I 58 (nI j) ((I 58 (nI s)) + (s_X6_colds (nI s) (nI j) I))) from by simp only [s_X6_f3, if_neg h2, if_neg h3, if_neg h4, if_pos h5, Bool.false_eq_true, ↓reduceIte, Nat.reduceAdd, Nat.reduceMul, mj_tn0, mj_tn1, mj_tn2, mj_tn3]] at K
            exact ih (j + 1)  (.int ((I 58 (nI s)) + (s_X6_colds (nI s) (nI j) I))) (mj_upI I 58 (nI j) ((I 58 (nI s)) + (s_X6_colds (nI s) (nI j) I))) (by omega) (by omega) (by omega) (hS) K
          · skip
            refine R_seg (φ := []) (pc' := 56) (L' := [.ref 42, .int a, .int q, .int (nI s), .int ((nI j) + 1), .int ((I 58 (nI s)) + (s_X6_colds (nI s) (nI j) I))]) (st' := []) (σ' := (mj_KS N, I, mj_PP c d r)) 2 rfl trivial ?_
            rw [nI_1 j]
            rw [show s_X6_f3 a q m s (k + 1) j  I = s_X6_f3 a q m s k (j + 1)  I from by simp only [s_X6_f3, if_neg h2, if_neg h3, if_neg h4, if_neg h5, Bool.false_eq_true, ↓reduceIte, Nat.reduceAdd, Nat.reduceMul, mj_tn0, mj_tn1, mj_tn2, mj_tn3]] at K
            exact ih (j + 1)  (.int ((I 58 (nI s)) + (s_X6_colds (nI s) (nI j) I))) I (by omega) (by omega) (by omega) (hS) K
theorem mj6_f3_ne (a q : Int32) (m s : Nat) (x : Nat) (hx : x ≠ 58) : ∀ (k j : Nat) (I : mj_I), s_X6_f3 a q m s k j I x = I x := by
  intro k
  induction k with
  | zero => intro j I; rfl
  | succ k ih =>
    intro j I
    rw [s_X6_f3]
    repeat' split
    all_goals first
      | rfl
      | rw [ih, mj_upI_ne hx]
      | rw [ih]
def s_X6_f2 (a : Int32) (q : Int32) (m : Nat) : Nat → Nat → mj_I → mj_I
  | 0, j, I => I
  | k + 1, j, I => s_X6_f2 a q m k (j + 1)  (s_X6_f3 a q m j m 0  I)
set_option maxHeartbeats 8000000 in
theorem x_X6_f2 (l : Launch) (b base : Nat) (D : va_G) (z : mj_K × (Int32 → Int32)) (N : Nat) (a : Int32) (q : Int32) (m : Nat) (c d r : Nat) (Q : Option Value → mj_S → Prop) (hm : m ≤ 6) : ∀ (k j : Nat) (w4 : Value) (w5 : Value) (I : mj_I), k = m - j → 0 ≤ j → j ≤ m + 1 → (I 42 5 = nI m) → ((∀ w_3 w_4 w_5 : Value, mj_Rn l b base D z mj_m_X6_findColds 147 [.ref 42, .int a, .int q, w_3, w_4, w_5] [] (mj_KS N, (s_X6_f2 a q m k j  I), mj_PP c d r) (Q))) → mj_Rn l b base D z mj_m_X6_findColds 45 [.ref 42, .int a, .int q, .int (nI j), w4, w5] [] (mj_KS N, I, mj_PP c d r) (Q) := by
  intro k
  induction k with
  | zero =>
    intro j w4 w5 I hk hlo hj hS K
    refine R_seg (φ := []) (pc' := 50) (L' := [.ref 42, .int a, .int q, .int (nI j), w4, w5]) (st' := [.int (I 42 5), .int (nI j)]) (σ' := (mj_KS N, I, mj_PP c d r)) 3 rfl trivial ?_
    refine R_br (q := (nI j : Int32) < I 42 5) (t := 53) (f := 147) (rest := []) rfl (fun h1 => absurd h1 (by rw [hS]; exact nI_nlt (by omega) (by omega))) (fun h1 => ?_)
    exact K (.int (nI j)) w4 w5
  | succ k ih =>
    intro j w4 w5 I hk hlo hj hS K
    have hjm : j < m := by omega
    have hin : mj_in (nI j) 6 := mj_in_nI (by omega) (by omega)
    refine R_seg (φ := []) (pc' := 50) (L' := [.ref 42, .int a, .int q, .int (nI j), w4, w5]) (st' := [.int (I 42 5), .int (nI j)]) (σ' := (mj_KS N, I, mj_PP c d r)) 3 rfl trivial ?_
    refine R_br (q := (nI j : Int32) < I 42 5) (t := 53) (f := 147) (rest := []) rfl (fun h1 => ?_) (fun h1 => absurd (by rw [hS]; exact nI_lt hjm (by omega)) h1)
    refine R_seg (φ := []) (pc' := 56) (L' := [.ref 42, .int a, .int q, .int (nI j), .int 0, w5]) (st' := []) (σ' := (mj_KS N, I, mj_PP c d r)) 2 rfl trivial ?_
    refine x_X6_f3 l b base D z N a q m j c d r _ hm hin m 0  w5 I (by omega) (by omega) (by omega) hS ?_
    intro w_4 w_5
    refine R_seg (φ := []) (pc' := 45) (L' := [.ref 42, .int a, .int q, .int ((nI j) + 1), w_4, w_5]) (st' := []) (σ' := (mj_KS N, (s_X6_f3 a q m j m 0  I), mj_PP c d r)) 2 rfl trivial ?_
    rw [nI_1 j]
    rw [show s_X6_f2 a q m (k + 1) j  I = s_X6_f2 a q m k (j + 1)  (s_X6_f3 a q m j m 0  I) from by simp only [s_X6_f2, Bool.false_eq_true, ↓reduceIte, Nat.reduceAdd, Nat.reduceMul, mj_tn0, mj_tn1, mj_tn2, mj_tn3]] at K
    exact ih (j + 1)  w_4 w_5 (s_X6_f3 a q m j m 0  I) (by omega) (by omega) (by omega) ((congrFun (mj6_f3_ne _ _ _ _ _ (by decide) _ _ _) _).trans hS) K
theorem mj6_f2_ne (a q : Int32) (m : Nat) (x : Nat) (hx : x ≠ 58) : ∀ (k j : Nat) (I : mj_I), s_X6_f2 a q m k j I x = I x := by
  intro k
  induction k with
  | zero => intro j I; rfl
  | succ k ih => intro j I; rw [s_X6_f2, ih, mj6_f3_ne _ _ _ _ _ hx]
def s_X6_f1 (a : Int32) (m : Nat) : Nat → Nat → mj_I → mj_I
  | 0, j, I => I
  | k + 1, j, I => s_X6_f1 a m k (j + 1)  (s_X6_f2 a (nI j) m m 0  I)
set_option maxHeartbeats 8000000 in
theorem x_X6_f1 (l : Launch) (b base : Nat) (D : va_G) (z : mj_K × (Int32 → Int32)) (N : Nat) (a : Int32) (m : Nat) (c d r : Nat) (hm : m ≤ 6) : ∀ (k j : Nat) (w3 : Value) (w4 : Value) (w5 : Value) (I : mj_I), k = m - j → 0 ≤ j → j ≤ m + 1 → (I 42 5 = nI m) → mj_Rn l b base D z mj_m_X6_findColds 35 [.ref 42, .int a, .int (nI j), w3, w4, w5] [] (mj_KS N, I, mj_PP c d r) (mj_E N none (s_X6_f1 a m k j  I) (mj_PP c d r)) := by
  intro k
  induction k with
  | zero =>
    intro j w3 w4 w5 I hk hlo hj hS
    refine R_seg (φ := []) (pc' := 40) (L' := [.ref 42, .int a, .int (nI j), w3, w4, w5]) (st' := [.int (I 42 5), .int (nI j)]) (σ' := (mj_KS N, I, mj_PP c d r)) 3 rfl trivial ?_
    refine R_br (q := (nI j : Int32) < I 42 5) (t := 43) (f := 153) (rest := []) rfl (fun h1 => absurd h1 (by rw [hS]; exact nI_nlt (by omega) (by omega))) (fun h1 => ?_)
    exact R_rv rfl rfl (mj_leaf (by simp only [s_X6_f1, Bool.false_eq_true, ↓reduceIte, Nat.reduceAdd, Nat.reduceMul, mj_tn0, mj_tn1, mj_tn2, mj_tn3]) (by simp only [s_X6_f1, Bool.false_eq_true, ↓reduceIte, Nat.reduceAdd, Nat.reduceMul, mj_tn0, mj_tn1, mj_tn2, mj_tn3]))
  | succ k ih =>
    intro j w3 w4 w5 I hk hlo hj hS
    have hjm : j < m := by omega
    refine R_seg (φ := []) (pc' := 40) (L' := [.ref 42, .int a, .int (nI j), w3, w4, w5]) (st' := [.int (I 42 5), .int (nI j)]) (σ' := (mj_KS N, I, mj_PP c d r)) 3 rfl trivial ?_
    refine R_br (q := (nI j : Int32) < I 42 5) (t := 43) (f := 153) (rest := []) rfl (fun h1 => ?_) (fun h1 => absurd (by rw [hS]; exact nI_lt hjm (by omega)) h1)
    refine R_seg (φ := []) (pc' := 45) (L' := [.ref 42, .int a, .int (nI j), .int 0, w4, w5]) (st' := []) (σ' := (mj_KS N, I, mj_PP c d r)) 2 rfl trivial ?_
    refine x_X6_f2 l b base D z N a (nI j) m c d r _ hm m 0  w4 w5 I (by omega) (by omega) (by omega) hS ?_
    intro w_3 w_4 w_5
    refine R_seg (φ := []) (pc' := 35) (L' := [.ref 42, .int a, .int ((nI j) + 1), w_3, w_4, w_5]) (st' := []) (σ' := (mj_KS N, (s_X6_f2 a (nI j) m m 0  I), mj_PP c d r)) 2 rfl trivial ?_
    rw [nI_1 j]
    rw [show s_X6_f1 a m (k + 1) j  I = s_X6_f1 a m k (j + 1)  (s_X6_f2 a (nI j) m m 0  I) from by simp only [s_X6_f1, Bool.false_eq_true, ↓reduceIte, Nat.reduceAdd, Nat.reduceMul, mj_tn0, mj_tn1, mj_tn2, mj_tn3]]
    exact ih (j + 1)  w_3 w_4 w_5 (s_X6_f2 a (nI j) m m 0  I) (by omega) (by omega) (by omega) ((congrFun (mj6_f2_ne _ _ _ _ (by decide) _ _ _) _).trans hS)
def s_X6_f0 (a : Int32) (m : Nat) : Nat → Nat → mj_I → mj_I
  | 0, j, I => I
  | k + 1, j, I => if (nI j : Int32) = a then (s_X6_f0 a m k (j + 1)  (mj_upI I 58 (nI j) 0)) else (s_X6_f0 a m k (j + 1)  (mj_upI I 58 (nI j) (-9)))
set_option maxHeartbeats 8000000 in
theorem x_X6_f0 (l : Launch) (b base : Nat) (D : va_G) (z : mj_K × (Int32 → Int32)) (N : Nat) (a : Int32) (m : Nat) (c d r : Nat) (Q : Option Value → mj_S → Prop) (hm : m ≤ 6) : ∀ (k j : Nat) (I : mj_I), k = m - j → 0 ≤ j → j ≤ m + 1 → (I 42 5 = nI m) → ((∀ w_2 : Value, mj_Rn l b base D z mj_m_X6_findColds 33 [.ref 42, .int a, w_2, mj_mk, mj_mk, mj_mk] [] (mj_KS N, (s_X6_f0 a m k j  I), mj_PP c d r) (Q))) → mj_Rn l b base D z mj_m_X6_findColds 2 [.ref 42, .int a, .int (nI j), mj_mk, mj_mk, mj_mk] [] (mj_KS N, I, mj_PP c d r) (Q) := by
  intro k
  induction k with
  | zero =>
    intro j I hk hlo hj hS K
    refine R_seg (φ := []) (pc' := 7) (L' := [.ref 42, .int a, .int (nI j), mj_mk, mj_mk, mj_mk]) (st' := [.int (I 42 5), .int (nI j)]) (σ' := (mj_KS N, I, mj_PP c d r)) 3 rfl trivial ?_
    refine R_br (q := (nI j : Int32) < I 42 5) (t := 10) (f := 33) (rest := []) rfl (fun h1 => absurd h1 (by rw [hS]; exact nI_nlt (by omega) (by omega))) (fun h1 => ?_)
    exact K (.int (nI j))
  | succ k ih =>
    intro j I hk hlo hj hS K
    have hjm : j < m := by omega
    have hin : mj_in (nI j) 6 := mj_in_nI (by omega) (by omega)
    refine R_seg (φ := []) (pc' := 7) (L' := [.ref 42, .int a, .int (nI j), mj_mk, mj_mk, mj_mk]) (st' := [.int (I 42 5), .int (nI j)]) (σ' := (mj_KS N, I, mj_PP c d r)) 3 rfl trivial ?_
    refine R_br (q := (nI j : Int32) < I 42 5) (t := 10) (f := 33) (rest := []) rfl (fun h1 => ?_) (fun h1 => absurd (by rw [hS]; exact nI_lt hjm (by omega)) h1)
    refine R_seg (φ := []) (pc' := 17) (L' := [.ref 42, .int a, .int (nI j), mj_mk, mj_mk, mj_mk]) (st' := [.int a, .int (nI j), .int (nI j), .ref 58]) (σ' := (mj_KS N, I, mj_PP c d r)) 5 rfl trivial ?_
    refine R_br (q := (nI j : Int32) = a) (t := 20) (f := 24) (rest := [.int (nI j), .ref 58]) rfl (fun h2 => ?_) (fun h2 => ?_)
    · skip
      refine R_seg (φ := [mj_in (nI j) 6]) (pc' := 2) (L' := [.ref 42, .int a, .int ((nI j) + 1), mj_mk, mj_mk, mj_mk]) (st' := []) (σ' := (mj_KS N, (mj_upI I 58 (nI j) 0), mj_PP c d r)) 5 rfl ⟨hin, trivial⟩ ?_
      rw [nI_1 j]
      rw [show s_X6_f0 a m (k + 1) j  I = s_X6_f0 a m k (j + 1)  (mj_upI I 58 (nI j) 0) from by simp only [s_X6_f0, if_pos h2, Bool.false_eq_true, ↓reduceIte, Nat.reduceAdd, Nat.reduceMul, mj_tn0, mj_tn1, mj_tn2, mj_tn3]] at K
      exact ih (j + 1)  (mj_upI I 58 (nI j) 0) (by omega) (by omega) (by omega) (hS) K
    · skip
      refine R_seg (φ := [mj_in (nI j) 6]) (pc' := 2) (L' := [.ref 42, .int a, .int ((nI j) + 1), mj_mk, mj_mk, mj_mk]) (st' := []) (σ' := (mj_KS N, (mj_upI I 58 (nI j) (-9)), mj_PP c d r)) 4 rfl ⟨hin, trivial⟩ ?_
      rw [nI_1 j]
      rw [show s_X6_f0 a m (k + 1) j  I = s_X6_f0 a m k (j + 1)  (mj_upI I 58 (nI j) (-9)) from by simp only [s_X6_f0, if_neg h2, Bool.false_eq_true, ↓reduceIte, Nat.reduceAdd, Nat.reduceMul, mj_tn0, mj_tn1, mj_tn2, mj_tn3]] at K
      exact ih (j + 1)  (mj_upI I 58 (nI j) (-9)) (by omega) (by omega) (by omega) (hS) K
theorem mj6_f1_ne (a : Int32) (m : Nat) (x : Nat) (hx : x ≠ 58) : ∀ (k j : Nat) (I : mj_I), s_X6_f1 a m k j I x = I x := by
  intro k
  induction k with
  | zero => intro j I; rfl
  | succ k ih => intro j I; rw [s_X6_f1, ih, mj6_f2_ne _ _ _ _ hx]
theorem mj6_f0_ne (a : Int32) (m : Nat) (x : Nat) (hx : x ≠ 58) : ∀ (k j : Nat) (I : mj_I), s_X6_f0 a m k j I x = I x := by
  intro k
  induction k with
  | zero => intro j I; rfl
  | succ k ih =>
    intro j I
    rw [s_X6_f0]
    repeat' split
    all_goals rw [ih, mj_upI_ne hx]
def s_X6_findColds (a : Int32) (m : Nat) (I : mj_I) : mj_I := s_X6_f1 a m m 0  (s_X6_f0 a m m 0  I)
set_option maxHeartbeats 8000000 in
theorem x_X6_findColds (l : Launch) (b base : Nat) (D : va_G) (z : mj_K × (Int32 → Int32)) (N : Nat) (a : Int32) (m : Nat) (I : mj_I) (c d r : Nat) (hm : m ≤ 6) (hS : I 42 5 = nI m) : mj_Rn l b base D z mj_m_X6_findColds 0 [.ref 42, .int a, mj_mk, mj_mk, mj_mk, mj_mk] [] (mj_KS N, I, mj_PP c d r) (mj_E N none (s_X6_findColds a m I) (mj_PP c d r)) := by
  refine R_seg (φ := []) (pc' := 2) (L' := [.ref 42, .int a, .int 0, mj_mk, mj_mk, mj_mk]) (st' := []) (σ' := (mj_KS N, I, mj_PP c d r)) 2 rfl trivial ?_
  refine x_X6_f0 l b base D z N a m c d r _ hm m 0  I (by omega) (by omega) (by omega) hS ?_
  intro w_2
  refine R_seg (φ := []) (pc' := 35) (L' := [.ref 42, .int a, .int 0, mj_mk, mj_mk, mj_mk]) (st' := []) (σ' := (mj_KS N, (s_X6_f0 a m m 0  I), mj_PP c d r)) 2 rfl trivial ?_
  exact x_X6_f1 l b base D z N a m c d r hm m 0  mj_mk mj_mk mj_mk (s_X6_f0 a m m 0  I) (by omega) (by omega) (by omega) ((congrFun (mj6_f0_ne _ _ _ (by decide) _ _ _) _).trans hS)
theorem mj6_fc_ne (a : Int32) (m : Nat) (I : mj_I) (x : Nat) (hx : x ≠ 58) : s_X6_findColds a m I x = I x := by
  rw [s_X6_findColds, mj6_f1_ne _ _ _ hx, mj6_f0_ne _ _ _ hx]
theorem mj6_S6 {m : Nat} {I : mj_I} (hS : I 42 5 = nI m) (hm : m ≤ 6) : (I 42 5).toInt ≤ 6 := by
  rw [hS, nI_toInt (by omega)]
  omega
def s_X6_mild (m : Nat) (a : Int32) (e : Int32) (I : mj_I) : Int32 × mj_I := if ((s_X6_isStreet a I) : Int32) = 0 then ((-1), I) else (if ((s_X6_isStreet e I) : Int32) = 0 then ((-1), I) else ((s_X6_findColds a m I) 58 e, (s_X6_findColds a m I)))
set_option maxHeartbeats 8000000 in
theorem x_X6_mild (l : Launch) (b base : Nat) (D : va_G) (z : mj_K × (Int32 → Int32)) (N : Nat) (m : Nat) (a : Int32) (e : Int32) (I : mj_I) (c d r : Nat) (hm : m ≤ 6) (hS : I 42 5 = nI m) : mj_Rn l b base D z mj_m_X6_mild 0 [.ref 42, .int a, .int e] [] (mj_KS N, I, mj_PP c d r) (mj_E N (some (.int (s_X6_mild m a e I).1)) (s_X6_mild m a e I).2 (mj_PP c d r)) := by
  refine R_seg (φ := []) (pc' := 2) (L' := [.ref 42, .int a, .int e]) (st' := [.int a, .ref 42]) (σ' := (mj_KS N, I, mj_PP c d r)) 2 rfl trivial ?_
  refine R_ce (idx := 137) (mid := 99) (kind := 0) (N := N) (M' := mj_m_X6_isStreet) (As := [.ref 42, .int a]) (rest := []) (I := I) (P := mj_PP c d r) (I' := I) (P' := mj_PP c d r) (v := some (.int (s_X6_isStreet a I))) rfl rfl rfl mj_mc99 mj_dc99 rfl rfl rfl rfl rfl rfl (x_X6_isStreet l b base D z N a I c d r) ?_
  refine R_seg (φ := []) (pc' := 5) (L' := [.ref 42, .int a, .int e]) (st' := [.int (s_X6_isStreet a I)]) (σ' := (mj_KS N, I, mj_PP c d r)) 0 rfl trivial ?_
  refine R_br (q := ((s_X6_isStreet a I) : Int32) = 0) (t := 16) (f := 8) (rest := []) rfl (fun h1 => ?_) (fun h1 => ?_)
  · skip
    refine R_seg (φ := []) (pc' := 17) (L' := [.ref 42, .int a, .int e]) (st' := [.int (-1)]) (σ' := (mj_KS N, I, mj_PP c d r)) 1 rfl trivial ?_
    exact R_ri rfl rfl (mj_leaf (by simp only [s_X6_mild, if_pos h1, Bool.false_eq_true, ↓reduceIte, Nat.reduceAdd, Nat.reduceMul, mj_tn0, mj_tn1, mj_tn2, mj_tn3]) (by simp only [s_X6_mild, if_pos h1, Bool.false_eq_true, ↓reduceIte, Nat.reduceAdd, Nat.reduceMul, mj_tn0, mj_tn1, mj_tn2, mj_tn3]))
  · skip
    refine R_seg (φ := []) (pc' := 10) (L' := [.ref 42, .int a, .int e]) (st' := [.int e, .ref 42]) (σ' := (mj_KS N, I, mj_PP c d r)) 2 rfl trivial ?_
    refine R_ce (idx := 137) (mid := 99) (kind := 0) (N := N) (M' := mj_m_X6_isStreet) (As := [.ref 42, .int e]) (rest := []) (I := I) (P := mj_PP c d r) (I' := I) (P' := mj_PP c d r) (v := some (.int (s_X6_isStreet e I))) rfl rfl rfl mj_mc99 mj_dc99 rfl rfl rfl rfl rfl rfl (x_X6_isStreet l b base D z N e I c d r) ?_
    refine R_seg (φ := []) (pc' := 13) (L' := [.ref 42, .int a, .int e]) (st' := [.int (s_X6_isStreet e I)]) (σ' := (mj_KS N, I, mj_PP c d r)) 0 rfl trivial ?_
    refine R_br (q := ((s_X6_isStreet e I) : Int32) = 0) (t := 16) (f := 18) (rest := []) rfl (fun h2 => ?_) (fun h2 => ?_)
    · skip
      refine R_seg (φ := []) (pc' := 17) (L' := [.ref 42, .int a, .int e]) (st' := [.int (-1)]) (σ' := (mj_KS N, I, mj_PP c d r)) 1 rfl trivial ?_
      exact R_ri rfl rfl (mj_leaf (by simp only [s_X6_mild, if_neg h1, if_pos h2, Bool.false_eq_true, ↓reduceIte, Nat.reduceAdd, Nat.reduceMul, mj_tn0, mj_tn1, mj_tn2, mj_tn3]) (by simp only [s_X6_mild, if_neg h1, if_pos h2, Bool.false_eq_true, ↓reduceIte, Nat.reduceAdd, Nat.reduceMul, mj_tn0, mj_tn1, mj_tn2, mj_tn3]))
    · skip
      refine R_seg (φ := []) (pc' := 20) (L' := [.ref 42, .int a, .int e]) (st' := [.int a, .ref 42]) (σ' := (mj_KS N, I, mj_PP c d r)) 2 rfl trivial ?_
      refine R_ce (idx := 196) (mid := 130) (kind := 0) (N := N) (M' := mj_m_X6_findColds) (As := [.ref 42, .int a]) (rest := []) (I := I) (P := mj_PP c d r) (I' := (s_X6_findColds a m I)) (P' := mj_PP c d r) (v := none) rfl rfl rfl mj_mc130 mj_dc130 rfl rfl rfl rfl rfl rfl (x_X6_findColds l b base D z N a m  I c d r hm hS) ?_
      refine R_seg (φ := [mj_in e 6]) (pc' := 29) (L' := [.ref 42, .int a, .int e]) (st' := [.int ((s_X6_findColds a m I) 58 e)]) (σ' := (mj_KS N, (s_X6_findColds a m I), mj_PP c d r)) 4 rfl ⟨(mj6_st h2 (mj6_S6 hS hm)), trivial⟩ ?_
      exact R_ri rfl rfl (mj_leaf (by simp only [s_X6_mild, if_neg h1, if_neg h2, Bool.false_eq_true, ↓reduceIte, Nat.reduceAdd, Nat.reduceMul, mj_tn0, mj_tn1, mj_tn2, mj_tn3]) (by simp only [s_X6_mild, if_neg h1, if_neg h2, Bool.false_eq_true, ↓reduceIte, Nat.reduceAdd, Nat.reduceMul, mj_tn0, mj_tn1, mj_tn2, mj_tn3]))
def s_X6_mf (m : Nat) (a : Int32) (I : mj_I) : Nat → Nat → Int32 → Int32
  | 0, j, g => g
  | k + 1, j, g => if (I 58 (nI j) : Int32) = (-9) then (-9) else (if (g : Int32) < I 58 (nI j) then (s_X6_mf m a I k (j + 1) (I 58 (nI j))) else (s_X6_mf m a I k (j + 1) g))
set_option maxHeartbeats 8000000 in
theorem x_X6_mf (l : Launch) (b base : Nat) (D : va_G) (z : mj_K × (Int32 → Int32)) (N : Nat) (m : Nat) (a : Int32) (I : mj_I) (c d r : Nat) (hm : m ≤ 6) (hS : I 42 5 = nI m) : ∀ (k j : Nat) (g : Int32), k = m - j → 0 ≤ j → j ≤ m + 1 → mj_Rn l b base D z mj_m_X6_mostFrom 9 [.ref 42, .int a, .int g, .int (nI j)] [] (mj_KS N, I, mj_PP c d r) (mj_E N (some (.int (s_X6_mf m a I k j g))) I (mj_PP c d r)) := by
  intro k
  induction k with
  | zero =>
    intro j g hk hlo hj
    refine R_seg (φ := []) (pc' := 14) (L' := [.ref 42, .int a, .int g, .int (nI j)]) (st' := [.int (I 42 5), .int (nI j)]) (σ' := (mj_KS N, I, mj_PP c d r)) 3 rfl trivial ?_
    refine R_br (q := (nI j : Int32) < I 42 5) (t := 17) (f := 58) (rest := []) rfl (fun h1 => absurd h1 (by rw [hS]; exact nI_nlt (by omega) (by omega))) (fun h1 => ?_)
    refine R_seg (φ := []) (pc' := 59) (L' := [.ref 42, .int a, .int g, .int (nI j)]) (st' := [.int g]) (σ' := (mj_KS N, I, mj_PP c d r)) 1 rfl trivial ?_
    exact R_ri rfl rfl (mj_leaf (by simp only [s_X6_mf, Bool.false_eq_true, ↓reduceIte, Nat.reduceAdd, Nat.reduceMul, mj_tn0, mj_tn1, mj_tn2, mj_tn3]) (by simp only [s_X6_mf, Bool.false_eq_true, ↓reduceIte, Nat.reduceAdd, Nat.reduceMul, mj_tn0, mj_tn1, mj_tn2, mj_tn3]))
  | succ k ih =>
    intro j g hk hlo hj
    have hjm : j < m := by omega
    have hin : mj_in (nI j) 6 := mj_in_nI (by omega) (by omega)
    refine R_seg (φ := []) (pc' := 14) (L' := [.ref 42, .int a, .int g, .int (nI j)]) (st' := [.int (I 42 5), .int (nI j)]) (σ' := (mj_KS N, I, mj_PP c d r)) 3 rfl trivial ?_
    refine R_br (q := (nI j : Int32) < I 42 5) (t := 17) (f := 58) (rest := []) rfl (fun h1 => ?_) (fun h1 => absurd (by rw [hS]; exact nI_lt hjm (by omega)) h1)
    refine R_seg (φ := [mj_in (nI j) 6]) (pc' := 25) (L' := [.ref 42, .int a, .int g, .int (nI j)]) (st' := [.int (-9), .int (I 58 (nI j))]) (σ' := (mj_KS N, I, mj_PP c d r)) 5 rfl ⟨hin, trivial⟩ ?_
    refine R_br (q := (I 58 (nI j) : Int32) = (-9)) (t := 28) (f := 31) (rest := []) rfl (fun h2 => ?_) (fun h2 => ?_)
    · skip
      refine R_seg (φ := []) (pc' := 30) (L' := [.ref 42, .int a, .int g, .int (nI j)]) (st' := [.int (-9)]) (σ' := (mj_KS N, I, mj_PP c d r)) 1 rfl trivial ?_
      exact R_ri rfl rfl (mj_leaf (by simp only [s_X6_mf, if_pos h2, Bool.false_eq_true, ↓reduceIte, Nat.reduceAdd, Nat.reduceMul, mj_tn0, mj_tn1, mj_tn2, mj_tn3]) (by simp only [s_X6_mf, if_pos h2, Bool.false_eq_true, ↓reduceIte, Nat.reduceAdd, Nat.reduceMul, mj_tn0, mj_tn1, mj_tn2, mj_tn3]))
    · skip
      refine R_seg (φ := [mj_in (nI j) 6]) (pc' := 38) (L' := [.ref 42, .int a, .int g, .int (nI j)]) (st' := [.int g, .int (I 58 (nI j))]) (σ' := (mj_KS N, I, mj_PP c d r)) 5 rfl ⟨hin, trivial⟩ ?_
      refine R_br (q := (g : Int32) < I 58 (nI j)) (t := 41) (f := 50) (rest := []) rfl (fun h3 => ?_) (fun h3 => ?_)
      · skip
        refine R_seg (φ := [mj_in (nI j) 6]) (pc' := 9) (L' := [.ref 42, .int a, .int (I 58 (nI j)), .int ((nI j) + 1)]) (st' := []) (σ' := (mj_KS N, I, mj_PP c d r)) 8 rfl ⟨hin, trivial⟩ ?_
        rw [nI_1 j]
        rw [show s_X6_mf m a I (k + 1) j g = s_X6_mf m a I k (j + 1) (I 58 (nI j)) from by simp only [s_X6_mf, if_neg h2, if_pos h3, Bool.false_eq_true, ↓reduceIte, Nat.reduceAdd, Nat.reduceMul, mj_tn0, mj_tn1, mj_tn2, mj_tn3]]
        exact ih (j + 1) (I 58 (nI j)) (by omega) (by omega) (by omega)
      · skip
        refine R_seg (φ := []) (pc' := 9) (L' := [.ref 42, .int a, .int g, .int ((nI j) + 1)]) (st' := []) (σ' := (mj_KS N, I, mj_PP c d r)) 4 rfl trivial ?_
        rw [nI_1 j]
        rw [show s_X6_mf m a I (k + 1) j g = s_X6_mf m a I k (j + 1) g from by simp only [s_X6_mf, if_neg h2, if_neg h3, Bool.false_eq_true, ↓reduceIte, Nat.reduceAdd, Nat.reduceMul, mj_tn0, mj_tn1, mj_tn2, mj_tn3]]
        exact ih (j + 1) g (by omega) (by omega) (by omega)
def s_X6_mostFrom (m : Nat) (a : Int32) (I : mj_I) : Int32 × mj_I := (s_X6_mf m a (s_X6_findColds a m I) m 0 0, (s_X6_findColds a m I))
set_option maxHeartbeats 8000000 in
theorem x_X6_mostFrom (l : Launch) (b base : Nat) (D : va_G) (z : mj_K × (Int32 → Int32)) (N : Nat) (m : Nat) (a : Int32) (I : mj_I) (c d r : Nat) (hm : m ≤ 6) (hS : I 42 5 = nI m) : mj_Rn l b base D z mj_m_X6_mostFrom 0 [.ref 42, .int a, mj_mk, mj_mk] [] (mj_KS N, I, mj_PP c d r) (mj_E N (some (.int (s_X6_mostFrom m a I).1)) (s_X6_mostFrom m a I).2 (mj_PP c d r)) := by
  refine R_seg (φ := []) (pc' := 2) (L' := [.ref 42, .int a, mj_mk, mj_mk]) (st' := [.int a, .ref 42]) (σ' := (mj_KS N, I, mj_PP c d r)) 2 rfl trivial ?_
  refine R_ce (idx := 196) (mid := 130) (kind := 0) (N := N) (M' := mj_m_X6_findColds) (As := [.ref 42, .int a]) (rest := []) (I := I) (P := mj_PP c d r) (I' := (s_X6_findColds a m I)) (P' := mj_PP c d r) (v := none) rfl rfl rfl mj_mc130 mj_dc130 rfl rfl rfl rfl rfl rfl (x_X6_findColds l b base D z N a m  I c d r hm hS) ?_
  refine R_seg (φ := []) (pc' := 9) (L' := [.ref 42, .int a, .int 0, .int 0]) (st' := []) (σ' := (mj_KS N, (s_X6_findColds a m I), mj_PP c d r)) 4 rfl trivial ?_
  exact x_X6_mf l b base D z N m a (s_X6_findColds a m I) c d r hm ((congrFun (mj6_fc_ne _ _ _ _ (by decide)) _).trans hS) m 0 0 (by omega) (by omega) (by omega)
theorem mj6_mf_ne (a : Int32) (m : Nat) (I : mj_I) (x : Nat) (hx : x ≠ 58) : (s_X6_mostFrom m a I).2 x = I x := mj6_fc_ne a m I x hx
def s_X6_be (m : Nat) : Nat → Nat → Int32 → Int32 → mj_I → Int32 × mj_I
  | 0, j, g, f, I => (g, I)
  | k + 1, j, g, f, I => if ((s_X6_mostFrom m (nI j) I).1 : Int32) = (-9) then (s_X6_be m k (j + 1) g f ((s_X6_mostFrom m (nI j) I).2)) else (if (g : Int32) = (-9) then (s_X6_be m k (j + 1) (nI j) ((s_X6_mostFrom m (nI j) I).1) ((s_X6_mostFrom m (nI j) I).2)) else (if ((s_X6_mostFrom m (nI j) I).1 : Int32) < f then (s_X6_be m k (j + 1) (nI j) ((s_X6_mostFrom m (nI j) I).1) ((s_X6_mostFrom m (nI j) I).2)) else (s_X6_be m k (j + 1) g f ((s_X6_mostFrom m (nI j) I).2))))
set_option maxHeartbeats 8000000 in
theorem x_X6_be (l : Launch) (b base : Nat) (D : va_G) (z : mj_K × (Int32 → Int32)) (N : Nat) (m : Nat) (c d r : Nat) (hm : m ≤ 6) : ∀ (k j : Nat) (g : Int32) (f : Int32) (w4 : Value) (I : mj_I), k = m - j → 0 ≤ j → j ≤ m + 1 → (I 42 5 = nI m) → mj_Rn l b base D z mj_m_X6_best 18 [.ref 42, .int g, .int f, .int (nI j), w4] [] (mj_KS N, I, mj_PP c d r) (mj_E N (some (.int (s_X6_be m k j g f I).1)) (s_X6_be m k j g f I).2 (mj_PP c d r)) := by
  intro k
  induction k with
  | zero =>
    intro j g f w4 I hk hlo hj hS
    refine R_seg (φ := []) (pc' := 23) (L' := [.ref 42, .int g, .int f, .int (nI j), w4]) (st' := [.int (I 42 5), .int (nI j)]) (σ' := (mj_KS N, I, mj_PP c d r)) 3 rfl trivial ?_
    refine R_br (q := (nI j : Int32) < I 42 5) (t := 26) (f := 63) (rest := []) rfl (fun h1 => absurd h1 (by rw [hS]; exact nI_nlt (by omega) (by omega))) (fun h1 => ?_)
    refine R_seg (φ := []) (pc' := 64) (L' := [.ref 42, .int g, .int f, .int (nI j), w4]) (st' := [.int g]) (σ' := (mj_KS N, I, mj_PP c d r)) 1 rfl trivial ?_
    exact R_ri rfl rfl (mj_leaf (by simp only [s_X6_be, Bool.false_eq_true, ↓reduceIte, Nat.reduceAdd, Nat.reduceMul, mj_tn0, mj_tn1, mj_tn2, mj_tn3]) (by simp only [s_X6_be, Bool.false_eq_true, ↓reduceIte, Nat.reduceAdd, Nat.reduceMul, mj_tn0, mj_tn1, mj_tn2, mj_tn3]))
  | succ k ih =>
    intro j g f w4 I hk hlo hj hS
    have hjm : j < m := by omega
    have hin : mj_in (nI j) 6 := mj_in_nI (by omega) (by omega)
    refine R_seg (φ := []) (pc' := 23) (L' := [.ref 42, .int g, .int f, .int (nI j), w4]) (st' := [.int (I 42 5), .int (nI j)]) (σ' := (mj_KS N, I, mj_PP c d r)) 3 rfl trivial ?_
    refine R_br (q := (nI j : Int32) < I 42 5) (t := 26) (f := 63) (rest := []) rfl (fun h1 => ?_) (fun h1 => absurd (by rw [hS]; exact nI_lt hjm (by omega)) h1)
    refine R_seg (φ := []) (pc' := 28) (L' := [.ref 42, .int g, .int f, .int (nI j), w4]) (st' := [.int (nI j), .ref 42]) (σ' := (mj_KS N, I, mj_PP c d r)) 2 rfl trivial ?_
    refine R_ce (idx := 200) (mid := 132) (kind := 0) (N := N) (M' := mj_m_X6_mostFrom) (As := [.ref 42, .int (nI j)]) (rest := []) (I := I) (P := mj_PP c d r) (I' := (s_X6_mostFrom m (nI j) I).2) (P' := mj_PP c d r) (v := some (.int ((s_X6_mostFrom m (nI j) I).1))) rfl rfl rfl mj_mc132 mj_dc132 rfl rfl rfl rfl rfl rfl (x_X6_mostFrom l b base D z N m (nI j)  I c d r hm hS) ?_
    refine R_seg (φ := []) (pc' := 37) (L' := [.ref 42, .int g, .int f, .int (nI j), .int ((s_X6_mostFrom m (nI j) I).1)]) (st' := [.int (-9), .int ((s_X6_mostFrom m (nI j) I).1)]) (σ' := (mj_KS N, (s_X6_mostFrom m (nI j) I).2, mj_PP c d r)) 3 rfl trivial ?_
    refine R_br (q := ((s_X6_mostFrom m (nI j) I).1 : Int32) = (-9)) (t := 57) (f := 40) (rest := []) rfl (fun h2 => ?_) (fun h2 => ?_)
    · skip
      refine R_seg (φ := []) (pc' := 18) (L' := [.ref 42, .int g, .int f, .int ((nI j) + 1), .int ((s_X6_mostFrom m (nI j) I).1)]) (st' := []) (σ' := (mj_KS N, (s_X6_mostFrom m (nI j) I).2, mj_PP c d r)) 2 rfl trivial ?_
      rw [nI_1 j]
      rw [show s_X6_be m (k + 1) j g f I = s_X6_be m k (j + 1) g f ((s_X6_mostFrom m (nI j) I).2) from by simp only [s_X6_be, if_pos h2, Bool.false_eq_true, ↓reduceIte, Nat.reduceAdd, Nat.reduceMul, mj_tn0, mj_tn1, mj_tn2, mj_tn3]]
      exact ih (j + 1) g f (.int ((s_X6_mostFrom m (nI j) I).1)) ((s_X6_mostFrom m (nI j) I).2) (by omega) (by omega) (by omega) ((congrFun (mj6_mf_ne _ _ _ _ (by decide)) _).trans hS)
    · skip
      refine R_seg (φ := []) (pc' := 43) (L' := [.ref 42, .int g, .int f, .int (nI j), .int ((s_X6_mostFrom m (nI j) I).1)]) (st' := [.int (-9), .int g]) (σ' := (mj_KS N, (s_X6_mostFrom m (nI j) I).2, mj_PP c d r)) 2 rfl trivial ?_
      refine R_br (q := (g : Int32) = (-9)) (t := 52) (f := 46) (rest := []) rfl (fun h3 => ?_) (fun h3 => ?_)
      · skip
        refine R_seg (φ := []) (pc' := 18) (L' := [.ref 42, .int (nI j), .int ((s_X6_mostFrom m (nI j) I).1), .int ((nI j) + 1), .int ((s_X6_mostFrom m (nI j) I).1)]) (st' := []) (σ' := (mj_KS N, (s_X6_mostFrom m (nI j) I).2, mj_PP c d r)) 6 rfl trivial ?_
        rw [nI_1 j]
        rw [show s_X6_be m (k + 1) j g f I = s_X6_be m k (j + 1) (nI j) ((s_X6_mostFrom m (nI j) I).1) ((s_X6_mostFrom m (nI j) I).2) from by simp only [s_X6_be, if_neg h2, if_pos h3, Bool.false_eq_true, ↓reduceIte, Nat.reduceAdd, Nat.reduceMul, mj_tn0, mj_tn1, mj_tn2, mj_tn3]]
        exact ih (j + 1) (nI j) ((s_X6_mostFrom m (nI j) I).1) (.int ((s_X6_mostFrom m (nI j) I).1)) ((s_X6_mostFrom m (nI j) I).2) (by omega) (by omega) (by omega) ((congrFun (mj6_mf_ne _ _ _ _ (by decide)) _).trans hS)
      · skip
        refine R_seg (φ := []) (pc' := 49) (L' := [.ref 42, .int g, .int f, .int (nI j), .int ((s_X6_mostFrom m (nI j) I).1)]) (st' := [.int f, .int ((s_X6_mostFrom m (nI j) I).1)]) (σ' := (mj_KS N, (s_X6_mostFrom m (nI j) I).2, mj_PP c d r)) 2 rfl trivial ?_
        refine R_br (q := ((s_X6_mostFrom m (nI j) I).1 : Int32) < f) (t := 52) (f := 57) (rest := []) rfl (fun h4 => ?_) (fun h4 => ?_)
        · skip
          refine R_seg (φ := []) (pc' := 18) (L' := [.ref 42, .int (nI j), .int ((s_X6_mostFrom m (nI j) I).1), .int ((nI j) + 1), .int ((s_X6_mostFrom m (nI j) I).1)]) (st' := []) (σ' := (mj_KS N, (s_X6_mostFrom m (nI j) I).2, mj_PP c d r)) 6 rfl trivial ?_
          rw [nI_1 j]
          rw [show s_X6_be m (k + 1) j g f I = s_X6_be m k (j + 1) (nI j) ((s_X6_mostFrom m (nI j) I).1) ((s_X6_mostFrom m (nI j) I).2) from by simp only [s_X6_be, if_neg h2, if_neg h3, if_pos h4, Bool.false_eq_true, ↓reduceIte, Nat.reduceAdd, Nat.reduceMul, mj_tn0, mj_tn1, mj_tn2, mj_tn3]]
          exact ih (j + 1) (nI j) ((s_X6_mostFrom m (nI j) I).1) (.int ((s_X6_mostFrom m (nI j) I).1)) ((s_X6_mostFrom m (nI j) I).2) (by omega) (by omega) (by omega) ((congrFun (mj6_mf_ne _ _ _ _ (by decide)) _).trans hS)
        · skip
          refine R_seg (φ := []) (pc' := 18) (L' := [.ref 42, .int g, .int f, .int ((nI j) + 1), .int ((s_X6_mostFrom m (nI j) I).1)]) (st' := []) (σ' := (mj_KS N, (s_X6_mostFrom m (nI j) I).2, mj_PP c d r)) 2 rfl trivial ?_
          rw [nI_1 j]
          rw [show s_X6_be m (k + 1) j g f I = s_X6_be m k (j + 1) g f ((s_X6_mostFrom m (nI j) I).2) from by simp only [s_X6_be, if_neg h2, if_neg h3, if_neg h4, Bool.false_eq_true, ↓reduceIte, Nat.reduceAdd, Nat.reduceMul, mj_tn0, mj_tn1, mj_tn2, mj_tn3]]
          exact ih (j + 1) g f (.int ((s_X6_mostFrom m (nI j) I).1)) ((s_X6_mostFrom m (nI j) I).2) (by omega) (by omega) (by omega) ((congrFun (mj6_mf_ne _ _ _ _ (by decide)) _).trans hS)
def s_X6_best (m : Nat) (I : mj_I) : Int32 × mj_I := if (I 42 5 : Int32) = 0 then ((-3), I) else ((s_X6_be m m 0 (-9) (-9) I).1, (s_X6_be m m 0 (-9) (-9) I).2)
set_option maxHeartbeats 8000000 in
theorem x_X6_best (l : Launch) (b base : Nat) (D : va_G) (z : mj_K × (Int32 → Int32)) (N : Nat) (m : Nat) (I : mj_I) (c d r : Nat) (hm : m ≤ 6) (hS : I 42 5 = nI m) : mj_Rn l b base D z mj_m_X6_best 0 [.ref 42, mj_mk, mj_mk, mj_mk, mj_mk] [] (mj_KS N, I, mj_PP c d r) (mj_E N (some (.int (s_X6_best m I).1)) (s_X6_best m I).2 (mj_PP c d r)) := by
  refine R_seg (φ := []) (pc' := 4) (L' := [.ref 42, mj_mk, mj_mk, mj_mk, mj_mk]) (st' := [.int (I 42 5)]) (σ' := (mj_KS N, I, mj_PP c d r)) 2 rfl trivial ?_
  refine R_br (q := (I 42 5 : Int32) = 0) (t := 7) (f := 10) (rest := []) rfl (fun h1 => ?_) (fun h1 => ?_)
  · skip
    refine R_seg (φ := []) (pc' := 9) (L' := [.ref 42, mj_mk, mj_mk, mj_mk, mj_mk]) (st' := [.int (-3)]) (σ' := (mj_KS N, I, mj_PP c d r)) 1 rfl trivial ?_
    exact R_ri rfl rfl (mj_leaf (by simp only [s_X6_best, if_pos h1, Bool.false_eq_true, ↓reduceIte, Nat.reduceAdd, Nat.reduceMul, mj_tn0, mj_tn1, mj_tn2, mj_tn3]) (by simp only [s_X6_best, if_pos h1, Bool.false_eq_true, ↓reduceIte, Nat.reduceAdd, Nat.reduceMul, mj_tn0, mj_tn1, mj_tn2, mj_tn3]))
  · skip
    refine R_seg (φ := []) (pc' := 18) (L' := [.ref 42, .int (-9), .int (-9), .int 0, mj_mk]) (st' := []) (σ' := (mj_KS N, I, mj_PP c d r)) 6 rfl trivial ?_
    simp only [s_X6_best, if_neg h1, Bool.false_eq_true, ↓reduceIte, Nat.reduceAdd, Nat.reduceMul, mj_tn0, mj_tn1, mj_tn2, mj_tn3]
    exact x_X6_be l b base D z N m c d r hm m 0 (-9) (-9) mj_mk I (by omega) (by omega) (by omega) hS
def s_X6_c2 (m : Nat) (s : Nat) : Nat → Nat → Int32 → mj_I → Int32 × mj_I
  | 0, j, g, I => (g, I)
  | k + 1, j, g, I => s_X6_c2 m s k (j + 1) (g + (((I 47 (nI s)) >>> ((nI j) &&& 31)) &&& 1)) I
set_option maxHeartbeats 8000000 in
theorem x_X6_c2 (l : Launch) (b base : Nat) (D : va_G) (z : mj_K × (Int32 → Int32)) (N : Nat) (m : Nat) (s : Nat) (c d r : Nat) (Q : Option Value → mj_S → Prop) (hm : m ≤ 6) (hs6 : mj_in (nI s) 6) : ∀ (k j : Nat) (g : Int32) (I : mj_I), k = m - j → 0 ≤ j → j ≤ m + 1 → (I 42 5 = nI m) → ((∀ w_3 : Value, mj_Rn l b base D z mj_m_X6_corners 43 [.ref 42, .int ((s_X6_c2 m s k j g I).1), .int (nI s), w_3] [] (mj_KS N, (s_X6_c2 m s k j g I).2, mj_PP c d r) (Q))) → mj_Rn l b base D z mj_m_X6_corners 16 [.ref 42, .int g, .int (nI s), .int (nI j)] [] (mj_KS N, I, mj_PP c d r) (Q) := by
  intro k
  induction k with
  | zero =>
    intro j g I hk hlo hj hS K
    refine R_seg (φ := []) (pc' := 21) (L' := [.ref 42, .int g, .int (nI s), .int (nI j)]) (st' := [.int (I 42 5), .int (nI j)]) (σ' := (mj_KS N, I, mj_PP c d r)) 3 rfl trivial ?_
    refine R_br (q := (nI j : Int32) < I 42 5) (t := 24) (f := 43) (rest := []) rfl (fun h1 => absurd h1 (by rw [hS]; exact nI_nlt (by omega) (by omega))) (fun h1 => ?_)
    exact K (.int (nI j))
  | succ k ih =>
    intro j g I hk hlo hj hS K
    have hjm : j < m := by omega
    refine R_seg (φ := []) (pc' := 21) (L' := [.ref 42, .int g, .int (nI s), .int (nI j)]) (st' := [.int (I 42 5), .int (nI j)]) (σ' := (mj_KS N, I, mj_PP c d r)) 3 rfl trivial ?_
    refine R_br (q := (nI j : Int32) < I 42 5) (t := 24) (f := 43) (rest := []) rfl (fun h1 => ?_) (fun h1 => absurd (by rw [hS]; exact nI_lt hjm (by omega)) h1)
    refine R_seg (φ := [mj_in (nI s) 6]) (pc' := 16) (L' := [.ref 42, .int (g + (((I 47 (nI s)) >>> ((nI j) &&& 31)) &&& 1)), .int (nI s), .int ((nI j) + 1)]) (st' := []) (σ' := (mj_KS N, I, mj_PP c d r)) 13 rfl ⟨hs6, trivial⟩ ?_
    rw [nI_1 j]
    rw [show s_X6_c2 m s (k + 1) j g I = s_X6_c2 m s k (j + 1) (g + (((I 47 (nI s)) >>> ((nI j) &&& 31)) &&& 1)) I from by simp only [s_X6_c2, Bool.false_eq_true, ↓reduceIte, Nat.reduceAdd, Nat.reduceMul, mj_tn0, mj_tn1, mj_tn2, mj_tn3]] at K
    exact ih (j + 1) (g + (((I 47 (nI s)) >>> ((nI j) &&& 31)) &&& 1)) I (by omega) (by omega) (by omega) (hS) K
theorem mj6_c2_eq (m s : Nat) : ∀ (k j : Nat) (g : Int32) (I : mj_I), (s_X6_c2 m s k j g I).2 = I := by
  intro k
  induction k with
  | zero => intro j g I; rfl
  | succ k ih => intro j g I; rw [s_X6_c2, ih]
def s_X6_c1 (m : Nat) : Nat → Nat → Int32 → mj_I → Int32 × mj_I
  | 0, j, g, I => (g, I)
  | k + 1, j, g, I => s_X6_c1 m k (j + 1) ((s_X6_c2 m j (m - (j + 1)) (j + 1) g I).1) ((s_X6_c2 m j (m - (j + 1)) (j + 1) g I).2)
set_option maxHeartbeats 8000000 in
theorem x_X6_c1 (l : Launch) (b base : Nat) (D : va_G) (z : mj_K × (Int32 → Int32)) (N : Nat) (m : Nat) (c d r : Nat) (hm : m ≤ 6) : ∀ (k j : Nat) (g : Int32) (w3 : Value) (I : mj_I), k = m - j → 0 ≤ j → j ≤ m + 1 → (I 42 5 = nI m) → mj_Rn l b base D z mj_m_X6_corners 4 [.ref 42, .int g, .int (nI j), w3] [] (mj_KS N, I, mj_PP c d r) (mj_E N (some (.int (s_X6_c1 m k j g I).1)) (s_X6_c1 m k j g I).2 (mj_PP c d r)) := by
  intro k
  induction k with
  | zero =>
    intro j g w3 I hk hlo hj hS
    refine R_seg (φ := []) (pc' := 9) (L' := [.ref 42, .int g, .int (nI j), w3]) (st' := [.int (I 42 5), .int (nI j)]) (σ' := (mj_KS N, I, mj_PP c d r)) 3 rfl trivial ?_
    refine R_br (q := (nI j : Int32) < I 42 5) (t := 12) (f := 49) (rest := []) rfl (fun h1 => absurd h1 (by rw [hS]; exact nI_nlt (by omega) (by omega))) (fun h1 => ?_)
    refine R_seg (φ := []) (pc' := 50) (L' := [.ref 42, .int g, .int (nI j), w3]) (st' := [.int g]) (σ' := (mj_KS N, I, mj_PP c d r)) 1 rfl trivial ?_
    exact R_ri rfl rfl (mj_leaf (by simp only [s_X6_c1, Bool.false_eq_true, ↓reduceIte, Nat.reduceAdd, Nat.reduceMul, mj_tn0, mj_tn1, mj_tn2, mj_tn3]) (by simp only [s_X6_c1, Bool.false_eq_true, ↓reduceIte, Nat.reduceAdd, Nat.reduceMul, mj_tn0, mj_tn1, mj_tn2, mj_tn3]))
  | succ k ih =>
    intro j g w3 I hk hlo hj hS
    have hjm : j < m := by omega
    have hin : mj_in (nI j) 6 := mj_in_nI (by omega) (by omega)
    refine R_seg (φ := []) (pc' := 9) (L' := [.ref 42, .int g, .int (nI j), w3]) (st' := [.int (I 42 5), .int (nI j)]) (σ' := (mj_KS N, I, mj_PP c d r)) 3 rfl trivial ?_
    refine R_br (q := (nI j : Int32) < I 42 5) (t := 12) (f := 49) (rest := []) rfl (fun h1 => ?_) (fun h1 => absurd (by rw [hS]; exact nI_lt hjm (by omega)) h1)
    refine R_seg (φ := []) (pc' := 16) (L' := [.ref 42, .int g, .int (nI j), .int ((nI j) + 1)]) (st' := []) (σ' := (mj_KS N, I, mj_PP c d r)) 4 rfl trivial ?_
    rw [nI_1 j]
    refine x_X6_c2 l b base D z N m j c d r _ hm hin (m - (j + 1)) (j + 1) g I (by omega) (by omega) (by omega) hS ?_
    intro w_3
    refine R_seg (φ := []) (pc' := 4) (L' := [.ref 42, .int ((s_X6_c2 m j (m - (j + 1)) (j + 1) g I).1), .int ((nI j) + 1), w_3]) (st' := []) (σ' := (mj_KS N, (s_X6_c2 m j (m - (j + 1)) (j + 1) g I).2, mj_PP c d r)) 2 rfl trivial ?_
    rw [nI_1 j]
    rw [show s_X6_c1 m (k + 1) j g I = s_X6_c1 m k (j + 1) ((s_X6_c2 m j (m - (j + 1)) (j + 1) g I).1) ((s_X6_c2 m j (m - (j + 1)) (j + 1) g I).2) from by simp only [s_X6_c1, Bool.false_eq_true, ↓reduceIte, Nat.reduceAdd, Nat.reduceMul, mj_tn0, mj_tn1, mj_tn2, mj_tn3]]
    exact ih (j + 1) ((s_X6_c2 m j (m - (j + 1)) (j + 1) g I).1) w_3 ((s_X6_c2 m j (m - (j + 1)) (j + 1) g I).2) (by omega) (by omega) (by omega) ((by rw [mj6_c2_eq]; exact hS))
def s_X6_corners (m : Nat) (I : mj_I) : Int32 × mj_I := ((s_X6_c1 m m 0 0 I).1, (s_X6_c1 m m 0 0 I).2)
set_option maxHeartbeats 8000000 in
theorem x_X6_corners (l : Launch) (b base : Nat) (D : va_G) (z : mj_K × (Int32 → Int32)) (N : Nat) (m : Nat) (I : mj_I) (c d r : Nat) (hm : m ≤ 6) (hS : I 42 5 = nI m) : mj_Rn l b base D z mj_m_X6_corners 0 [.ref 42, mj_mk, mj_mk, mj_mk] [] (mj_KS N, I, mj_PP c d r) (mj_E N (some (.int (s_X6_corners m I).1)) (s_X6_corners m I).2 (mj_PP c d r)) := by
  refine R_seg (φ := []) (pc' := 4) (L' := [.ref 42, .int 0, .int 0, mj_mk]) (st' := []) (σ' := (mj_KS N, I, mj_PP c d r)) 4 rfl trivial ?_
  exact x_X6_c1 l b base D z N m c d r hm m 0 0 mj_mk I (by omega) (by omega) (by omega) hS
def s_X6_many (m : Nat) (w : Int32) (I : mj_I) : Int32 × mj_I := if (w : Int32) = 0 then (I 42 6, I) else (if (w : Int32) = 1 then (I 42 5, I) else (if (w : Int32) = 2 then ((s_X6_corners m I).1, (s_X6_corners m I).2) else (if (w : Int32) = 3 then (I 42 25, I) else ((-2), I))))
set_option maxHeartbeats 8000000 in
theorem x_X6_many (l : Launch) (b base : Nat) (D : va_G) (z : mj_K × (Int32 → Int32)) (N : Nat) (m : Nat) (w : Int32) (I : mj_I) (c d r : Nat) (hm : m ≤ 6) (hS : I 42 5 = nI m) : mj_Rn l b base D z mj_m_X6_many 0 [.ref 42, .int w] [] (mj_KS N, I, mj_PP c d r) (mj_E N (some (.int (s_X6_many m w I).1)) (s_X6_many m w I).2 (mj_PP c d r)) := by
  refine R_seg (φ := []) (pc' := 1) (L' := [.ref 42, .int w]) (st' := [.int w]) (σ' := (mj_KS N, I, mj_PP c d r)) 1 rfl trivial ?_
  refine R_br (q := (w : Int32) = 0) (t := 4) (f := 11) (rest := []) rfl (fun h1 => ?_) (fun h1 => ?_)
  · skip
    refine R_seg (φ := []) (pc' := 49) (L' := [.ref 42, .int w]) (st' := [.int (I 42 6)]) (σ' := (mj_KS N, I, mj_PP c d r)) 3 rfl trivial ?_
    exact R_ri rfl rfl (mj_leaf (by simp only [s_X6_many, if_pos h1, Bool.false_eq_true, ↓reduceIte, Nat.reduceAdd, Nat.reduceMul, mj_tn0, mj_tn1, mj_tn2, mj_tn3]) (by simp only [s_X6_many, if_pos h1, Bool.false_eq_true, ↓reduceIte, Nat.reduceAdd, Nat.reduceMul, mj_tn0, mj_tn1, mj_tn2, mj_tn3]))
  · skip
    refine R_seg (φ := []) (pc' := 13) (L' := [.ref 42, .int w]) (st' := [.int 1, .int w]) (σ' := (mj_KS N, I, mj_PP c d r)) 2 rfl trivial ?_
    refine R_br (q := (w : Int32) = 1) (t := 16) (f := 23) (rest := []) rfl (fun h2 => ?_) (fun h2 => ?_)
    · skip
      refine R_seg (φ := []) (pc' := 49) (L' := [.ref 42, .int w]) (st' := [.int (I 42 5)]) (σ' := (mj_KS N, I, mj_PP c d r)) 3 rfl trivial ?_
      exact R_ri rfl rfl (mj_leaf (by simp only [s_X6_many, if_neg h1, if_pos h2, Bool.false_eq_true, ↓reduceIte, Nat.reduceAdd, Nat.reduceMul, mj_tn0, mj_tn1, mj_tn2, mj_tn3]) (by simp only [s_X6_many, if_neg h1, if_pos h2, Bool.false_eq_true, ↓reduceIte, Nat.reduceAdd, Nat.reduceMul, mj_tn0, mj_tn1, mj_tn2, mj_tn3]))
    · skip
      refine R_seg (φ := []) (pc' := 25) (L' := [.ref 42, .int w]) (st' := [.int 2, .int w]) (σ' := (mj_KS N, I, mj_PP c d r)) 2 rfl trivial ?_
      refine R_br (q := (w : Int32) = 2) (t := 28) (f := 35) (rest := []) rfl (fun h3 => ?_) (fun h3 => ?_)
      · skip
        refine R_seg (φ := []) (pc' := 29) (L' := [.ref 42, .int w]) (st' := [.ref 42]) (σ' := (mj_KS N, I, mj_PP c d r)) 1 rfl trivial ?_
        refine R_ce (idx := 228) (mid := 155) (kind := 0) (N := N) (M' := mj_m_X6_corners) (As := [.ref 42]) (rest := []) (I := I) (P := mj_PP c d r) (I' := (s_X6_corners m I).2) (P' := mj_PP c d r) (v := some (.int ((s_X6_corners m I).1))) rfl rfl rfl mj_mc155 mj_dc155 rfl rfl rfl rfl rfl rfl (x_X6_corners l b base D z N m  I c d r hm hS) ?_
        refine R_seg (φ := []) (pc' := 49) (L' := [.ref 42, .int w]) (st' := [.int ((s_X6_corners m I).1)]) (σ' := (mj_KS N, (s_X6_corners m I).2, mj_PP c d r)) 1 rfl trivial ?_
        exact R_ri rfl rfl (mj_leaf (by simp only [s_X6_many, if_neg h1, if_neg h2, if_pos h3, Bool.false_eq_true, ↓reduceIte, Nat.reduceAdd, Nat.reduceMul, mj_tn0, mj_tn1, mj_tn2, mj_tn3]) (by simp only [s_X6_many, if_neg h1, if_neg h2, if_pos h3, Bool.false_eq_true, ↓reduceIte, Nat.reduceAdd, Nat.reduceMul, mj_tn0, mj_tn1, mj_tn2, mj_tn3]))
      · skip
        refine R_seg (φ := []) (pc' := 37) (L' := [.ref 42, .int w]) (st' := [.int 3, .int w]) (σ' := (mj_KS N, I, mj_PP c d r)) 2 rfl trivial ?_
        refine R_br (q := (w : Int32) = 3) (t := 40) (f := 47) (rest := []) rfl (fun h4 => ?_) (fun h4 => ?_)
        · skip
          refine R_seg (φ := []) (pc' := 49) (L' := [.ref 42, .int w]) (st' := [.int (I 42 25)]) (σ' := (mj_KS N, I, mj_PP c d r)) 3 rfl trivial ?_
          exact R_ri rfl rfl (mj_leaf (by simp only [s_X6_many, if_neg h1, if_neg h2, if_neg h3, if_pos h4, Bool.false_eq_true, ↓reduceIte, Nat.reduceAdd, Nat.reduceMul, mj_tn0, mj_tn1, mj_tn2, mj_tn3]) (by simp only [s_X6_many, if_neg h1, if_neg h2, if_neg h3, if_pos h4, Bool.false_eq_true, ↓reduceIte, Nat.reduceAdd, Nat.reduceMul, mj_tn0, mj_tn1, mj_tn2, mj_tn3]))
        · skip
          refine R_seg (φ := []) (pc' := 49) (L' := [.ref 42, .int w]) (st' := [.int (-2)]) (σ' := (mj_KS N, I, mj_PP c d r)) 1 rfl trivial ?_
          exact R_ri rfl rfl (mj_leaf (by simp only [s_X6_many, if_neg h1, if_neg h2, if_neg h3, if_neg h4, Bool.false_eq_true, ↓reduceIte, Nat.reduceAdd, Nat.reduceMul, mj_tn0, mj_tn1, mj_tn2, mj_tn3]) (by simp only [s_X6_many, if_neg h1, if_neg h2, if_neg h3, if_neg h4, Bool.false_eq_true, ↓reduceIte, Nat.reduceAdd, Nat.reduceMul, mj_tn0, mj_tn1, mj_tn2, mj_tn3]))
