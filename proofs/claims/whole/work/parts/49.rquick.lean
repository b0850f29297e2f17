/-! the reference: the quickest -/
theorem mj6_q7 {x : Int32} (h : 0 ≤ x.toInt) : mj_in (x - x / 7 * 7) 7 ∧ 0 ≤ (x / 7).toInt ∧ (x / 7).toInt = x.toInt / 7 ∧ (x - x / 7 * 7).toInt = x.toInt % 7 := by
  have h2 := Int32.toInt_lt x
  have e7 : (7 : Int32).toInt = 7 := by decide
  have e1 : (x / 7).toInt = x.toInt / 7 := by
    rw [Int32.toInt_div_of_ne_right _ _ (by decide), e7]
    exact Int.tdiv_eq_ediv_of_nonneg h
  have e2 : (x / 7 * 7).toInt = x.toInt / 7 * 7 := by
    rw [mj_imul (by rw [e1, e7]; omega) (by rw [e1, e7]; omega), e1, e7]
  have e3 : (x - x / 7 * 7).toInt = x.toInt % 7 := by
    rw [mj_isub (by rw [e2]; omega) (by rw [e2]; omega), e2]
    omega
  exact ⟨mj_mkin ⟨by omega, by omega⟩, by omega, e1, e3⟩
theorem mj6_q6 {x : Int32} (h : 0 ≤ x.toInt) : mj_in (x - x / 6 * 6) 6 ∧ 0 ≤ (x / 6).toInt ∧ (x / 6).toInt = x.toInt / 6 ∧ (x - x / 6 * 6).toInt = x.toInt % 6 := by
  have h2 := Int32.toInt_lt x
  have e7 : (6 : Int32).toInt = 6 := by decide
  have e1 : (x / 6).toInt = x.toInt / 6 := by
    rw [Int32.toInt_div_of_ne_right _ _ (by decide), e7]
    exact Int.tdiv_eq_ediv_of_nonneg h
  have e2 : (x / 6 * 6).toInt = x.toInt / 6 * 6 := by
    rw [mj_imul (by rw [e1, e7]; omega) (by rw [e1, e7]; omega), e1, e7]
  have e3 : (x - x / 6 * 6).toInt = x.toInt % 6 := by
    rw [mj_isub (by rw [e2]; omega) (by rw [e2]; omega), e2]
    omega
  exact ⟨mj_mkin ⟨by omega, by omega⟩, by omega, e1, e3⟩
def s_X6_bh (v : Int32) (s : Int32) : Nat → Nat → Int32 → Int32 → Int32 → mj_I → Int32 × mj_I
  | 0, j, g, f, e, I => ((f * 6) + s, I)
  | k + 1, j, g, f, e, I => if ((s_X6_isPlant (nI j) I) : Int32) = 0 then (s_X6_bh v s k (j + 1) (g / 7) (f + (e * (g - g / 7 * 7))) (e * 7) I) else (s_X6_bh v s k (j + 1) (g / 7) (f + (e * (s_X6_onBy (nI j) (g - g / 7 * 7) (I 46 s) I))) (e * 7) I)
set_option maxHeartbeats 8000000 in
theorem x_X6_bh (l : Launch) (b base : Nat) (D : va_G) (z : mj_K × (Int32 → Int32)) (N : Nat) (v : Int32) (s : Int32) (c d r : Nat) (hs : mj_in s 6) : ∀ (k j : Nat) (g : Int32) (f : Int32) (e : Int32) (w7 : Value) (I : mj_I), k = 3 - j → 0 ≤ j → j ≤ 3 + 1 → (0 ≤ g.toInt) → mj_Rn l b base D z mj_m_X6_behind 14 [.ref 42, .int v, .int s, .int g, .int f, .int e, .int (nI j), w7] [] (mj_KS N, I, mj_PP c d r) (mj_E N (some (.int (s_X6_bh v s k j g f e I).1)) (s_X6_bh v s k j g f e I).2 (mj_PP c d r)) := by
  intro k
  induction k with
  | zero =>
    intro j g f e w7 I hk hlo hj hg
    refine R_seg (φ := []) (pc' := 17) (L' := [.ref 42, .int v, .int s, .int g, .int f, .int e, .int (nI j), w7]) (st' := [.int 3, .int (nI j)]) (σ' := (mj_KS N, I, mj_PP c d r)) 2 rfl trivial ?_
    refine R_br (q := (nI j : Int32) < 3) (t := 20) (f := 80) (rest := []) rfl (fun h1 => absurd h1 (show ¬ nI j < nI 3 from nI_nlt (by omega) (by omega))) (fun h1 => ?_)
    refine R_seg (φ := []) (pc' := 87) (L' := [.ref 42, .int v, .int s, .int g, .int f, .int e, .int (nI j), w7]) (st' := [.int ((f * 6) + s)]) (σ' := (mj_KS N, I, mj_PP c d r)) 5 rfl trivial ?_
    exact R_ri rfl rfl (mj_leaf (by simp only [s_X6_bh, Bool.false_eq_true, ↓reduceIte, Nat.reduceAdd, Nat.reduceMul, mj_tn0, mj_tn1, mj_tn2, mj_tn3]) (by simp only [s_X6_bh, Bool.false_eq_true, ↓reduceIte, Nat.reduceAdd, Nat.reduceMul, mj_tn0, mj_tn1, mj_tn2, mj_tn3]))
  | succ k ih =>
    intro j g f e w7 I hk hlo hj hg
    have hjm : j < 3 := by omega
    have hin3 : mj_in (nI j) 3 := mj_in_nI hjm (by decide)
    refine R_seg (φ := []) (pc' := 17) (L' := [.ref 42, .int v, .int s, .int g, .int f, .int e, .int (nI j), w7]) (st' := [.int 3, .int (nI j)]) (σ' := (mj_KS N, I, mj_PP c d r)) 2 rfl trivial ?_
    refine R_br (q := (nI j : Int32) < 3) (t := 20) (f := 80) (rest := []) rfl (fun h1 => ?_) (fun h1 => absurd (show nI j < nI 3 from nI_lt hjm (by omega)) h1)
    refine R_seg (φ := [¬ (7 : Int32) = 0, ¬ (7 : Int32) = 0]) (pc' := 38) (L' := [.ref 42, .int v, .int s, .int (g / 7), .int f, .int e, .int (nI j), .int (g - g / 7 * 7)]) (st' := [.int (nI j), .ref 42, .int e, .int f]) (σ' := (mj_KS N, I, mj_PP c d r)) 12 rfl ⟨by decide, by decide, trivial⟩ ?_
    refine R_ce (idx := 140) (mid := 100) (kind := 0) (N := N) (M' := mj_m_X6_isPlant) (As := [.ref 42, .int (nI j)]) (rest := [.int e, .int f]) (I := I) (P := mj_PP c d r) (I' := I) (P' := mj_PP c d r) (v := some (.int (s_X6_isPlant (nI j) I))) rfl rfl rfl mj_mc100 mj_dc100 rfl rfl rfl rfl rfl rfl (x_X6_isPlant l b base D z N (nI j) I c d r) ?_
    refine R_seg (φ := []) (pc' := 41) (L' := [.ref 42, .int v, .int s, .int (g / 7), .int f, .int e, .int (nI j), .int (g - g / 7 * 7)]) (st' := [.int (s_X6_isPlant (nI j) I), .int e, .int f]) (σ' := (mj_KS N, I, mj_PP c d r)) 0 rfl trivial ?_
    refine R_br (q := ((s_X6_isPlant (nI j) I) : Int32) = 0) (t := 61) (f := 44) (rest := [.int e, .int f]) rfl (fun h2 => ?_) (fun h2 => ?_)
    · skip
      refine R_seg (φ := []) (pc' := 14) (L' := [.ref 42, .int v, .int s, .int (g / 7), .int (f + (e * (g - g / 7 * 7))), .int (e * 7), .int ((nI j) + 1), .int (g - g / 7 * 7)]) (st' := []) (σ' := (mj_KS N, I, mj_PP c d r)) 10 rfl trivial ?_
      rw [nI_1 j]
      rw [show s_X6_bh v s (k + 1) j g f e I = s_X6_bh v s k (j + 1) (g / 7) (f + (e * (g - g / 7 * 7))) (e * 7) I from by simp only [s_X6_bh, if_pos h2, Bool.false_eq_true, ↓reduceIte, Nat.reduceAdd, Nat.reduceMul, mj_tn0, mj_tn1, mj_tn2, mj_tn3]]
      exact ih (j + 1) (g / 7) (f + (e * (g - g / 7 * 7))) (e * 7) (.int (g - g / 7 * 7)) I (by omega) (by omega) (by omega) ((mj6_q7 hg).2.1)
    · skip
      refine R_seg (φ := [mj_in s 6]) (pc' := 55) (L' := [.ref 42, .int v, .int s, .int (g / 7), .int f, .int e, .int (nI j), .int (g - g / 7 * 7)]) (st' := [.int (I 46 s), .int (g - g / 7 * 7), .int (nI j), .ref 42, .int e, .int f]) (σ' := (mj_KS N, I, mj_PP c d r)) 7 rfl ⟨hs, trivial⟩ ?_
      refine R_ce (idx := 149) (mid := 115) (kind := 0) (N := N) (M' := mj_m_X6_onBy) (As := [.ref 42, .int (nI j), .int (g - g / 7 * 7), .int (I 46 s)]) (rest := [.int e, .int f]) (I := I) (P := mj_PP c d r) (I' := I) (P' := mj_PP c d r) (v := some (.int (s_X6_onBy (nI j) (g - g / 7 * 7) (I 46 s) I))) rfl rfl rfl mj_mc115 mj_dc115 rfl rfl rfl rfl rfl rfl (x_X6_onBy l b base D z N (nI j) (g - g / 7 * 7) (I 46 s) I c d r (hin3) ((mj6_q7 hg).1)) ?_
      refine R_seg (φ := []) (pc' := 14) (L' := [.ref 42, .int v, .int s, .int (g / 7), .int (f + (e * (s_X6_onBy (nI j) (g - g / 7 * 7) (I 46 s) I))), .int (e * 7), .int ((nI j) + 1), .int (g - g / 7 * 7)]) (st' := []) (σ' := (mj_KS N, I, mj_PP c d r)) 10 rfl trivial ?_
      rw [nI_1 j]
      rw [show s_X6_bh v s (k + 1) j g f e I = s_X6_bh v s k (j + 1) (g / 7) (f + (e * (s_X6_onBy (nI j) (g - g / 7 * 7) (I 46 s) I))) (e * 7) I from by simp only [s_X6_bh, if_neg h2, Bool.false_eq_true, ↓reduceIte, Nat.reduceAdd, Nat.reduceMul, mj_tn0, mj_tn1, mj_tn2, mj_tn3]]
      exact ih (j + 1) (g / 7) (f + (e * (s_X6_onBy (nI j) (g - g / 7 * 7) (I 46 s) I))) (e * 7) (.int (g - g / 7 * 7)) I (by omega) (by omega) (by omega) ((mj6_q7 hg).2.1)
def s_X6_behind (v : Int32) (s : Int32) (I : mj_I) : Int32 × mj_I := ((s_X6_bh v s 3 0 (v / 6) 0 1 I).1, (s_X6_bh v s 3 0 (v / 6) 0 1 I).2)
set_option maxHeartbeats 8000000 in
theorem x_X6_behind (l : Launch) (b base : Nat) (D : va_G) (z : mj_K × (Int32 → Int32)) (N : Nat) (v : Int32) (s : Int32) (I : mj_I) (c d r : Nat) (hs : mj_in s 6) (hv : 0 ≤ v.toInt) : mj_Rn l b base D z mj_m_X6_behind 0 [.ref 42, .int v, .int s, mj_mk, mj_mk, mj_mk, mj_mk, mj_mk] [] (mj_KS N, I, mj_PP c d r) (mj_E N (some (.int (s_X6_behind v s I).1)) (s_X6_behind v s I).2 (mj_PP c d r)) := by
  refine R_seg (φ := [¬ (6 : Int32) = 0]) (pc' := 14) (L' := [.ref 42, .int v, .int s, .int (v / 6), .int 0, .int 1, .int 0, mj_mk]) (st' := []) (σ' := (mj_KS N, I, mj_PP c d r)) 10 rfl ⟨by decide, trivial⟩ ?_
  exact x_X6_bh l b base D z N v s c d r hs 3 0 (v / 6) 0 1 mj_mk I (by omega) (by omega) (by omega) (mj6_q6 hv).2.1
def s_X6_is (v : Int32) (I : mj_I) : Nat → Nat → Int32 → Int32
  | 0, j, g => if (v - v / 6 * 6 : Int32) < I 42 5 then 1 else 0
  | k + 1, j, g => if (nI j : Int32) < I 42 6 then (if (I 48 (nI j) : Int32) = 1 then (s_X6_is v I k (j + 1) (g / 7)) else (if ((g - g / 7 * 7) - (g - g / 7 * 7) / 2 * 2 : Int32) = 1 then 0 else (s_X6_is v I k (j + 1) (g / 7)))) else (if (g - g / 7 * 7 : Int32) = 6 then (s_X6_is v I k (j + 1) (g / 7)) else 0)
set_option maxHeartbeats 8000000 in
theorem x_X6_is (l : Launch) (b base : Nat) (D : va_G) (z : mj_K × (Int32 → Int32)) (N : Nat) (v : Int32) (I : mj_I) (c d r : Nat) : ∀ (k j : Nat) (g : Int32) (w4 : Value), k = 3 - j → 0 ≤ j → j ≤ 3 + 1 → mj_Rn l b base D z mj_m_X6_isState 7 [.ref 42, .int v, .int g, .int (nI j), w4] [] (mj_KS N, I, mj_PP c d r) (mj_E N (some (.int (s_X6_is v I k j g))) I (mj_PP c d r)) := by
  intro k
  induction k with
  | zero =>
    intro j g w4 hk hlo hj
    refine R_seg (φ := []) (pc' := 9) (L' := [.ref 42, .int v, .int g, .int (nI j), w4]) (st' := [.int 3, .int (nI j)]) (σ' := (mj_KS N, I, mj_PP c d r)) 2 rfl trivial ?_
    refine R_br (q := (nI j : Int32) < 3) (t := 12) (f := 67) (rest := []) rfl (fun h1 => absurd h1 (show ¬ nI j < nI 3 from nI_nlt (by omega) (by omega))) (fun h1 => ?_)
    refine R_seg (φ := [¬ (6 : Int32) = 0]) (pc' := 75) (L' := [.ref 42, .int v, .int g, .int (nI j), w4]) (st' := [.int (I 42 5), .int (v - v / 6 * 6)]) (σ' := (mj_KS N, I, mj_PP c d r)) 5 rfl ⟨by decide, trivial⟩ ?_
    refine R_br (q := (v - v / 6 * 6 : Int32) < I 42 5) (t := 78) (f := 82) (rest := []) rfl (fun h2 => ?_) (fun h2 => ?_)
    · skip
      refine R_seg (φ := []) (pc' := 83) (L' := [.ref 42, .int v, .int g, .int (nI j), w4]) (st' := [.int 1]) (σ' := (mj_KS N, I, mj_PP c d r)) 2 rfl trivial ?_
      exact R_rb rfl rfl (Or.inr rfl) (mj_leaf (by simp only [s_X6_is, if_pos h2, Bool.false_eq_true, ↓reduceIte, Nat.reduceAdd, Nat.reduceMul, mj_tn0, mj_tn1, mj_tn2, mj_tn3]) (by simp only [s_X6_is, if_pos h2, Bool.false_eq_true, ↓reduceIte, Nat.reduceAdd, Nat.reduceMul, mj_tn0, mj_tn1, mj_tn2, mj_tn3]))
    · skip
      refine R_seg (φ := []) (pc' := 83) (L' := [.ref 42, .int v, .int g, .int (nI j), w4]) (st' := [.int 0]) (σ' := (mj_KS N, I, mj_PP c d r)) 1 rfl trivial ?_
      exact R_rb rfl rfl (Or.inl rfl) (mj_leaf (by simp only [s_X6_is, if_neg h2, Bool.false_eq_true, ↓reduceIte, Nat.reduceAdd, Nat.reduceMul, mj_tn0, mj_tn1, mj_tn2, mj_tn3]) (by simp only [s_X6_is, if_neg h2, Bool.false_eq_true, ↓reduceIte, Nat.reduceAdd, Nat.reduceMul, mj_tn0, mj_tn1, mj_tn2, mj_tn3]))
  | succ k ih =>
    intro j g w4 hk hlo hj
    have hjm : j < 3 := by omega
    have hin3 : mj_in (nI j) 3 := mj_in_nI hjm (by decide)
    refine R_seg (φ := []) (pc' := 9) (L' := [.ref 42, .int v, .int g, .int (nI j), w4]) (st' := [.int 3, .int (nI j)]) (σ' := (mj_KS N, I, mj_PP c d r)) 2 rfl trivial ?_
    refine R_br (q := (nI j : Int32) < 3) (t := 12) (f := 67) (rest := []) rfl (fun h1 => ?_) (fun h1 => absurd (show nI j < nI 3 from nI_lt hjm (by omega)) h1)
    refine R_seg (φ := [¬ (7 : Int32) = 0]) (pc' := 23) (L' := [.ref 42, .int v, .int g, .int (nI j), .int (g - g / 7 * 7)]) (st' := [.int (I 42 6), .int (nI j)]) (σ' := (mj_KS N, I, mj_PP c d r)) 7 rfl ⟨by decide, trivial⟩ ?_
    refine R_br (q := (nI j : Int32) < I 42 6) (t := 36) (f := 26) (rest := []) rfl (fun h2 => ?_) (fun h2 => ?_)
    · skip
      refine R_seg (φ := [mj_in (nI j) 3]) (pc' := 43) (L' := [.ref 42, .int v, .int g, .int (nI j), .int (g - g / 7 * 7)]) (st' := [.int 1, .int (I 48 (nI j))]) (σ' := (mj_KS N, I, mj_PP c d r)) 5 rfl ⟨hin3, trivial⟩ ?_
      refine R_br (q := (I 48 (nI j) : Int32) = 1) (t := 56) (f := 46) (rest := []) rfl (fun h3 => ?_) (fun h3 => ?_)
      · skip
        refine R_seg (φ := [¬ (7 : Int32) = 0]) (pc' := 7) (L' := [.ref 42, .int v, .int (g / 7), .int ((nI j) + 1), .int (g - g / 7 * 7)]) (st' := []) (σ' := (mj_KS N, I, mj_PP c d r)) 6 rfl ⟨by decide, trivial⟩ ?_
        rw [nI_1 j]
        rw [show s_X6_is v I (k + 1) j g = s_X6_is v I k (j + 1) (g / 7) from by simp only [s_X6_is, if_pos h2, if_pos h3, Bool.false_eq_true, ↓reduceIte, Nat.reduceAdd, Nat.reduceMul, mj_tn0, mj_tn1, mj_tn2, mj_tn3]]
        exact ih (j + 1) (g / 7) (.int (g - g / 7 * 7)) (by omega) (by omega) (by omega)
      · skip
        refine R_seg (φ := [¬ (2 : Int32) = 0]) (pc' := 51) (L' := [.ref 42, .int v, .int g, .int (nI j), .int (g - g / 7 * 7)]) (st' := [.int 1, .int ((g - g / 7 * 7) - (g - g / 7 * 7) / 2 * 2)]) (σ' := (mj_KS N, I, mj_PP c d r)) 4 rfl ⟨by decide, trivial⟩ ?_
        refine R_br (q := ((g - g / 7 * 7) - (g - g / 7 * 7) / 2 * 2 : Int32) = 1) (t := 54) (f := 56) (rest := []) rfl (fun h4 => ?_) (fun h4 => ?_)
        · skip
          refine R_seg (φ := []) (pc' := 55) (L' := [.ref 42, .int v, .int g, .int (nI j), .int (g - g / 7 * 7)]) (st' := [.int 0]) (σ' := (mj_KS N, I, mj_PP c d r)) 1 rfl trivial ?_
          exact R_rb rfl rfl (Or.inl rfl) (mj_leaf (by simp only [s_X6_is, if_pos h2, if_neg h3, if_pos h4, Bool.false_eq_true, ↓reduceIte, Nat.reduceAdd, Nat.reduceMul, mj_tn0, mj_tn1, mj_tn2, mj_tn3]) (by simp only [s_X6_is, if_pos h2, if_neg h3, if_pos h4, Bool.false_eq_true, ↓reduceIte, Nat.reduceAdd, Nat.reduceMul, mj_tn0, mj_tn1, mj_tn2, mj_tn3]))
        · skip
          refine R_seg (φ := [¬ (7 : Int32) = 0]) (pc' := 7) (L' := [.ref 42, .int v, .int (g / 7), .int ((nI j) + 1), .int (g - g / 7 * 7)]) (st' := []) (σ' := (mj_KS N, I, mj_PP c d r)) 6 rfl ⟨by decide, trivial⟩ ?_
          rw [nI_1 j]
          rw [show s_X6_is v I (k + 1) j g = s_X6_is v I k (j + 1) (g / 7) from by simp only [s_X6_is, if_pos h2, if_neg h3, if_neg h4, Bool.false_eq_true, ↓reduceIte, Nat.reduceAdd, Nat.reduceMul, mj_tn0, mj_tn1, mj_tn2, mj_tn3]]
          exact ih (j + 1) (g / 7) (.int (g - g / 7 * 7)) (by omega) (by omega) (by omega)
    · skip
      refine R_seg (φ := []) (pc' := 30) (L' := [.ref 42, .int v, .int g, .int (nI j), .int (g - g / 7 * 7)]) (st' := [.int 6, .int (g - g / 7 * 7)]) (σ' := (mj_KS N, I, mj_PP c d r)) 2 rfl trivial ?_
      refine R_br (q := (g - g / 7 * 7 : Int32) = 6) (t := 56) (f := 33) (rest := []) rfl (fun h5 => ?_) (fun h5 => ?_)
      · skip
        refine R_seg (φ := [¬ (7 : Int32) = 0]) (pc' := 7) (L' := [.ref 42, .int v, .int (g / 7), .int ((nI j) + 1), .int (g - g / 7 * 7)]) (st' := []) (σ' := (mj_KS N, I, mj_PP c d r)) 6 rfl ⟨by decide, trivial⟩ ?_
        rw [nI_1 j]
        rw [show s_X6_is v I (k + 1) j g = s_X6_is v I k (j + 1) (g / 7) from by simp only [s_X6_is, if_neg h2, if_pos h5, Bool.false_eq_true, ↓reduceIte, Nat.reduceAdd, Nat.reduceMul, mj_tn0, mj_tn1, mj_tn2, mj_tn3]]
        exact ih (j + 1) (g / 7) (.int (g - g / 7 * 7)) (by omega) (by omega) (by omega)
      · skip
        refine R_seg (φ := []) (pc' := 55) (L' := [.ref 42, .int v, .int g, .int (nI j), .int (g - g / 7 * 7)]) (st' := [.int 0]) (σ' := (mj_KS N, I, mj_PP c d r)) 2 rfl trivial ?_
        exact R_rb rfl rfl (Or.inl rfl) (mj_leaf (by simp only [s_X6_is, if_neg h2, if_neg h5, Bool.false_eq_true, ↓reduceIte, Nat.reduceAdd, Nat.reduceMul, mj_tn0, mj_tn1, mj_tn2, mj_tn3]) (by simp only [s_X6_is, if_neg h2, if_neg h5, Bool.false_eq_true, ↓reduceIte, Nat.reduceAdd, Nat.reduceMul, mj_tn0, mj_tn1, mj_tn2, mj_tn3]))
def s_X6_isState (v : Int32) (I : mj_I) : Int32 := s_X6_is v I 3 0 (v / 6)
set_option maxHeartbeats 8000000 in
theorem x_X6_isState (l : Launch) (b base : Nat) (D : va_G) (z : mj_K × (Int32 → Int32)) (N : Nat) (v : Int32) (I : mj_I) (c d r : Nat) : mj_Rn l b base D z mj_m_X6_isState 0 [.ref 42, .int v, mj_mk, mj_mk, mj_mk] [] (mj_KS N, I, mj_PP c d r) (mj_E N (some (.int (s_X6_isState v I))) I (mj_PP c d r)) := by
  refine R_seg (φ := [¬ (6 : Int32) = 0]) (pc' := 7) (L' := [.ref 42, .int v, .int (v / 6), .int 0, mj_mk]) (st' := []) (σ' := (mj_KS N, I, mj_PP c d r)) 6 rfl ⟨by decide, trivial⟩ ?_
  exact x_X6_is l b base D z N v I c d r  3 0 (v / 6) mj_mk (by omega) (by omega) (by omega)
/-- the number behind a day -/
def mj6_B (v s : Int32) (I : mj_I) : Int32 := (s_X6_behind v s I).1
theorem mj6_bh_2 (v s : Int32) : ∀ (k j : Nat) (g f e : Int32) (I : mj_I), (s_X6_bh v s k j g f e I).2 = I := by
  intro k
  induction k with
  | zero => intros; rfl
  | succ k ih =>
    intro j g f e I
    rw [s_X6_bh]
    split
    all_goals rw [ih]
theorem mj6_B_I (v s : Int32) (I : mj_I) : (s_X6_behind v s I).2 = I := mj6_bh_2 v s 3 0 _ _ _ I
theorem x_X6_behindI (l : Launch) (b base : Nat) (D : va_G) (z : mj_K × (Int32 → Int32)) (N : Nat) (v : Int32) (s : Int32) (I : mj_I) (c d r : Nat) (hs : mj_in s 6) (hv : 0 ≤ v.toInt) : mj_Rn l b base D z mj_m_X6_behind 0 [.ref 42, .int v, .int s, mj_mk, mj_mk, mj_mk, mj_mk, mj_mk] [] (mj_KS N, I, mj_PP c d r) (mj_E N (some (.int (mj6_B v s I))) I (mj_PP c d r)) := by
  have h := x_X6_behind l b base D z N v s I c d r hs hv
  rw [mj6_B_I] at h
  exact h
/-- the city is the same -/
def mj6_ce (I I' : mj_I) : Prop := I' 42 5 = I 42 5 ∧ I' 42 6 = I 42 6 ∧ I' 46 = I 46 ∧ I' 47 = I 47 ∧ I' 48 = I 48 ∧ I' 49 = I 49
theorem mj6_bh_eq {I I' : mj_I} (h : mj6_ce I I') (v s : Int32) : ∀ (k j : Nat) (g f e : Int32), (s_X6_bh v s k j g f e I').1 = (s_X6_bh v s k j g f e I).1 := by
  obtain ⟨_, h6, h46, _, h48, h49⟩ := h
  intro k
  induction k with
  | zero => intros; rfl
  | succ k ih =>
    intro j g f e
    have e1 : s_X6_isPlant (nI j) I' = s_X6_isPlant (nI j) I := by
      unfold s_X6_isPlant
      rw [h6]
    have e2 : s_X6_onBy (nI j) (g - g / 7 * 7) (I' 46 s) I' = s_X6_onBy (nI j) (g - g / 7 * 7) (I 46 s) I := by
      unfold s_X6_onBy
      rw [h46, h48, h49]
    rw [s_X6_bh, s_X6_bh, e1, e2]
    by_cases h0 : s_X6_isPlant (nI j) I = 0
    · rw [if_pos h0, if_pos h0]; exact ih _ _ _ _
    · rw [if_neg h0, if_neg h0]; exact ih _ _ _ _
theorem mj6_B_eq {I I' : mj_I} (h : mj6_ce I I') (v s : Int32) : mj6_B v s I' = mj6_B v s I := mj6_bh_eq h v s 3 0 _ _ _
theorem mj6_is_eq {I I' : mj_I} (h : mj6_ce I I') (v : Int32) : s_X6_isState v I' = s_X6_isState v I := by
  obtain ⟨h5, h6, _, _, h48, _⟩ := h
  have key : ∀ (k j : Nat) (g : Int32), s_X6_is v I' k j g = s_X6_is v I k j g := by
    intro k
    induction k with
    | zero => intro j g; rw [s_X6_is, s_X6_is, h5]
    | succ k ih =>
      intro j g
      rw [s_X6_is, s_X6_is, h6, h48]
      simp only [ih]
  exact key 3 0 _
theorem mj6_ce_57 (I : mj_I) (i v : Int32) : mj6_ce I (mj_upI I 57 i v) := ⟨rfl, rfl, rfl, rfl, rfl, rfl⟩
def mj6_F (m : Nat) (I : mj_I) : Prop := I 42 5 = nI m ∧ ∀ x : Nat, x < 2058 → ¬ s_X6_isState (nI x) I = 0 → ∀ t : Nat, t < m → mj_in (mj6_B (nI x) (nI t) I) 2058
theorem mj6_F_eq {m : Nat} {I I' : mj_I} (h : mj6_ce I I') (hF : mj6_F m I) : mj6_F m I' := by
  obtain ⟨a, c⟩ := hF
  refine ⟨h.1.trans a, fun x hx hs t ht => ?_⟩
  rw [mj6_is_eq h] at hs
  rw [mj6_B_eq h]
  exact c x hx hs t ht
theorem mj6_n0 {x : Nat} (h : x < 2058) : 0 ≤ (nI x).toInt := by
  rw [nI_toInt (by omega)]
  omega
def s_X6_bo (v : Int32) (m : Nat) (I : mj_I) : Nat → Nat → Int32 → Int32
  | 0, j, g => g
  | k + 1, j, g => if ((s_X6_mayGo (v - v / 6 * 6) (nI j) I) : Int32) = 0 then (s_X6_bo v m I k (j + 1) g) else (if (I 57 (mj6_B v (nI j) I) : Int32) = (-9) then (s_X6_bo v m I k (j + 1) g) else (if (g : Int32) = (-9) then (s_X6_bo v m I k (j + 1) (I 57 (mj6_B v (nI j) I))) else (if (I 57 (mj6_B v (nI j) I) : Int32) < g then (s_X6_bo v m I k (j + 1) (I 57 (mj6_B v (nI j) I))) else (s_X6_bo v m I k (j + 1) g))))
set_option maxHeartbeats 8000000 in
theorem x_X6_bo (l : Launch) (b base : Nat) (D : va_G) (z : mj_K × (Int32 → Int32)) (N : Nat) (v : Int32) (m : Nat) (I : mj_I) (c d r : Nat) (hm : m ≤ 6) (hS : I 42 5 = nI m) (hv : 0 ≤ v.toInt) (hB : ∀ t : Nat, t < m → mj_in (mj6_B v (nI t) I) 2058) : ∀ (k j : Nat) (g : Int32) (w4 : Value), k = m - j → 0 ≤ j → j ≤ m + 1 → mj_Rn l b base D z mj_m_X6_bestOf 5 [.ref 42, .int v, .int g, .int (nI j), w4] [] (mj_KS N, I, mj_PP c d r) (mj_E N (some (.int (s_X6_bo v m I k j g))) I (mj_PP c d r)) := by
  intro k
  induction k with
  | zero =>
    intro j g w4 hk hlo hj
    refine R_seg (φ := []) (pc' := 10) (L' := [.ref 42, .int v, .int g, .int (nI j), w4]) (st' := [.int (I 42 5), .int (nI j)]) (σ' := (mj_KS N, I, mj_PP c d r)) 3 rfl trivial ?_
    refine R_br (q := (nI j : Int32) < I 42 5) (t := 13) (f := 70) (rest := []) rfl (fun h1 => absurd h1 (by rw [hS]; exact nI_nlt (by omega) (by omega))) (fun h1 => ?_)
    refine R_seg (φ := []) (pc' := 71) (L' := [.ref 42, .int v, .int g, .int (nI j), w4]) (st' := [.int g]) (σ' := (mj_KS N, I, mj_PP c d r)) 1 rfl trivial ?_
    exact R_ri rfl rfl (mj_leaf (by simp only [s_X6_bo, Bool.false_eq_true, ↓reduceIte, Nat.reduceAdd, Nat.reduceMul, mj_tn0, mj_tn1, mj_tn2, mj_tn3]) (by simp only [s_X6_bo, Bool.false_eq_true, ↓reduceIte, Nat.reduceAdd, Nat.reduceMul, mj_tn0, mj_tn1, mj_tn2, mj_tn3]))
  | succ k ih =>
    intro j g w4 hk hlo hj
    have hjm : j < m := by omega
    have hin : mj_in (nI j) 6 := mj_in_nI (by omega) (by omega)
    refine R_seg (φ := []) (pc' := 10) (L' := [.ref 42, .int v, .int g, .int (nI j), w4]) (st' := [.int (I 42 5), .int (nI j)]) (σ' := (mj_KS N, I, mj_PP c d r)) 3 rfl trivial ?_
    refine R_br (q := (nI j : Int32) < I 42 5) (t := 13) (f := 70) (rest := []) rfl (fun h1 => ?_) (fun h1 => absurd (by rw [hS]; exact nI_lt hjm (by omega)) h1)
    refine R_seg (φ := [¬ (6 : Int32) = 0]) (pc' := 19) (L' := [.ref 42, .int v, .int g, .int (nI j), w4]) (st' := [.int (nI j), .int (v - v / 6 * 6), .ref 42]) (σ' := (mj_KS N, I, mj_PP c d r)) 5 rfl ⟨by decide, trivial⟩ ?_
    refine R_ce (idx := 152) (mid := 113) (kind := 0) (N := N) (M' := mj_m_X6_mayGo) (As := [.ref 42, .int (v - v / 6 * 6), .int (nI j)]) (rest := []) (I := I) (P := mj_PP c d r) (I' := I) (P' := mj_PP c d r) (v := some (.int (s_X6_mayGo (v - v / 6 * 6) (nI j) I))) rfl rfl rfl mj_mc113 mj_dc113 rfl rfl rfl rfl rfl rfl (x_X6_mayGo l b base D z N (v - v / 6 * 6) (nI j) I c d r ((mj6_q6 hv).1)) ?_
    refine R_seg (φ := []) (pc' := 22) (L' := [.ref 42, .int v, .int g, .int (nI j), w4]) (st' := [.int (s_X6_mayGo (v - v / 6 * 6) (nI j) I)]) (σ' := (mj_KS N, I, mj_PP c d r)) 0 rfl trivial ?_
    refine R_br (q := ((s_X6_mayGo (v - v / 6 * 6) (nI j) I) : Int32) = 0) (t := 64) (f := 25) (rest := []) rfl (fun h2 => ?_) (fun h2 => ?_)
    · skip
      refine R_seg (φ := []) (pc' := 5) (L' := [.ref 42, .int v, .int g, .int ((nI j) + 1), w4]) (st' := []) (σ' := (mj_KS N, I, mj_PP c d r)) 2 rfl trivial ?_
      rw [nI_1 j]
      rw [show s_X6_bo v m I (k + 1) j g = s_X6_bo v m I k (j + 1) g from by simp only [s_X6_bo, if_pos h2, Bool.false_eq_true, ↓reduceIte, Nat.reduceAdd, Nat.reduceMul, mj_tn0, mj_tn1, mj_tn2, mj_tn3]]
      exact ih (j + 1) g w4 (by omega) (by omega) (by omega)
    · skip
      refine R_seg (φ := []) (pc' := 32) (L' := [.ref 42, .int v, .int g, .int (nI j), w4]) (st' := [.int (nI j), .int v, .ref 42, .ref 57]) (σ' := (mj_KS N, I, mj_PP c d r)) 5 rfl trivial ?_
      refine R_ce (idx := 175) (mid := 122) (kind := 0) (N := N) (M' := mj_m_X6_behind) (As := [.ref 42, .int v, .int (nI j)]) (rest := [.ref 57]) (I := I) (P := mj_PP c d r) (I' := I) (P' := mj_PP c d r) (v := some (.int (mj6_B v (nI j) I))) rfl rfl rfl mj_mc122 mj_dc122 rfl rfl rfl rfl rfl rfl (x_X6_behindI l b base D z N v (nI j) I c d r hin hv) ?_
      refine R_seg (φ := [mj_in (mj6_B v (nI j) I) 2058]) (pc' := 42) (L' := [.ref 42, .int v, .int g, .int (nI j), .int (I 57 (mj6_B v (nI j) I))]) (st' := [.int (-9), .int (I 57 (mj6_B v (nI j) I))]) (σ' := (mj_KS N, I, mj_PP c d r)) 4 rfl ⟨(hB j hjm), trivial⟩ ?_
      refine R_br (q := (I 57 (mj6_B v (nI j) I) : Int32) = (-9)) (t := 62) (f := 45) (rest := []) rfl (fun h3 => ?_) (fun h3 => ?_)
      · skip
        refine R_seg (φ := []) (pc' := 5) (L' := [.ref 42, .int v, .int g, .int ((nI j) + 1), .int (I 57 (mj6_B v (nI j) I))]) (st' := []) (σ' := (mj_KS N, I, mj_PP c d r)) 4 rfl trivial ?_
        rw [nI_1 j]
        rw [show s_X6_bo v m I (k + 1) j g = s_X6_bo v m I k (j + 1) g from by simp only [s_X6_bo, if_neg h2, if_pos h3, Bool.false_eq_true, ↓reduceIte, Nat.reduceAdd, Nat.reduceMul, mj_tn0, mj_tn1, mj_tn2, mj_tn3]]
        exact ih (j + 1) g (.int (I 57 (mj6_B v (nI j) I))) (by omega) (by omega) (by omega)
      · skip
        refine R_seg (φ := []) (pc' := 48) (L' := [.ref 42, .int v, .int g, .int (nI j), .int (I 57 (mj6_B v (nI j) I))]) (st' := [.int (-9), .int g]) (σ' := (mj_KS N, I, mj_PP c d r)) 2 rfl trivial ?_
        refine R_br (q := (g : Int32) = (-9)) (t := 57) (f := 51) (rest := []) rfl (fun h4 => ?_) (fun h4 => ?_)
        · skip
          refine R_seg (φ := []) (pc' := 5) (L' := [.ref 42, .int v, .int (I 57 (mj6_B v (nI j) I)), .int ((nI j) + 1), .int (I 57 (mj6_B v (nI j) I))]) (st' := []) (σ' := (mj_KS N, I, mj_PP c d r)) 5 rfl trivial ?_
          rw [nI_1 j]
          rw [show s_X6_bo v m I (k + 1) j g = s_X6_bo v m I k (j + 1) (I 57 (mj6_B v (nI j) I)) from by simp only [s_X6_bo, if_neg h2, if_neg h3, if_pos h4, Bool.false_eq_true, ↓reduceIte, Nat.reduceAdd, Nat.reduceMul, mj_tn0, mj_tn1, mj_tn2, mj_tn3]]
          exact ih (j + 1) (I 57 (mj6_B v (nI j) I)) (.int (I 57 (mj6_B v (nI j) I))) (by omega) (by omega) (by omega)
        · skip
          refine R_seg (φ := []) (pc' := 54) (L' := [.ref 42, .int v, .int g, .int (nI j), .int (I 57 (mj6_B v (nI j) I))]) (st' := [.int g, .int (I 57 (mj6_B v (nI j) I))]) (σ' := (mj_KS N, I, mj_PP c d r)) 2 rfl trivial ?_
          refine R_br (q := (I 57 (mj6_B v (nI j) I) : Int32) < g) (t := 57) (f := 62) (rest := []) rfl (fun h5 => ?_) (fun h5 => ?_)
          · skip
            refine R_seg (φ := []) (pc' := 5) (L' := [.ref 42, .int v, .int (I 57 (mj6_B v (nI j) I)), .int ((nI j) + 1), .int (I 57 (mj6_B v (nI j) I))]) (st' := []) (σ' := (mj_KS N, I, mj_PP c d r)) 5 rfl trivial ?_
            rw [nI_1 j]
            rw [show s_X6_bo v m I (k + 1) j g = s_X6_bo v m I k (j + 1) (I 57 (mj6_B v (nI j) I)) from by simp only [s_X6_bo, if_neg h2, if_neg h3, if_neg h4, if_pos h5, Bool.false_eq_true, ↓reduceIte, Nat.reduceAdd, Nat.reduceMul, mj_tn0, mj_tn1, mj_tn2, mj_tn3]]
            exact ih (j + 1) (I 57 (mj6_B v (nI j) I)) (.int (I 57 (mj6_B v (nI j) I))) (by omega) (by omega) (by omega)
          · skip
            refine R_seg (φ := []) (pc' := 5) (L' := [.ref 42, .int v, .int g, .int ((nI j) + 1), .int (I 57 (mj6_B v (nI j) I))]) (st' := []) (σ' := (mj_KS N, I, mj_PP c d r)) 4 rfl trivial ?_
            rw [nI_1 j]
            rw [show s_X6_bo v m I (k + 1) j g = s_X6_bo v m I k (j + 1) g from by simp only [s_X6_bo, if_neg h2, if_neg h3, if_neg h4, if_neg h5, Bool.false_eq_true, ↓reduceIte, Nat.reduceAdd, Nat.reduceMul, mj_tn0, mj_tn1, mj_tn2, mj_tn3]]
            exact ih (j + 1) g (.int (I 57 (mj6_B v (nI j) I))) (by omega) (by omega) (by omega)
def s_X6_bestOf (v : Int32) (m : Nat) (I : mj_I) : Int32 := s_X6_bo v m I m 0 (-9)
set_option maxHeartbeats 8000000 in
theorem x_X6_bestOf (l : Launch) (b base : Nat) (D : va_G) (z : mj_K × (Int32 → Int32)) (N : Nat) (v : Int32) (m : Nat) (I : mj_I) (c d r : Nat) (hm : m ≤ 6) (hS : I 42 5 = nI m) (hv : 0 ≤ v.toInt) (hB : ∀ t : Nat, t < m → mj_in (mj6_B v (nI t) I) 2058) : mj_Rn l b base D z mj_m_X6_bestOf 0 [.ref 42, .int v, mj_mk, mj_mk, mj_mk] [] (mj_KS N, I, mj_PP c d r) (mj_E N (some (.int (s_X6_bestOf v m I))) I (mj_PP c d r)) := by
  refine R_seg (φ := []) (pc' := 5) (L' := [.ref 42, .int v, .int (-9), .int 0, mj_mk]) (st' := []) (σ' := (mj_KS N, I, mj_PP c d r)) 4 rfl trivial ?_
  exact x_X6_bo l b base D z N v m I c d r hm hS hv hB m 0 (-9) mj_mk (by omega) (by omega) (by omega)
def s_X6_fd (m : Nat) (e : Int32) : Nat → Nat → Int32 → mj_I → Int32 × mj_I
  | 0, j, g, I => (g, I)
  | k + 1, j, g, I => if (I 57 (nI j) : Int32) = (-9) then (if ((s_X6_isState (nI j) I) : Int32) = 0 then (s_X6_fd m e k (j + 1) g I) else (if ((s_X6_bestOf (nI j) m I) : Int32) = e - 1 then (s_X6_fd m e k (j + 1) 1 (mj_upI I 57 (nI j) e)) else (s_X6_fd m e k (j + 1) g I))) else (s_X6_fd m e k (j + 1) g I)
set_option maxHeartbeats 8000000 in
theorem x_X6_fd (l : Launch) (b base : Nat) (D : va_G) (z : mj_K × (Int32 → Int32)) (N : Nat) (m : Nat) (e : Int32) (c d r : Nat) (hm : m ≤ 6) : ∀ (k j : Nat) (g : Int32) (I : mj_I), k = 2058 - j → 0 ≤ j → j ≤ 2058 + 1 → (mj6_F m I) → (g = 0 ∨ g = 1) → mj_Rn l b base D z mj_m_X6_findDay 4 [.ref 42, .int e, .int g, .int (nI j)] [] (mj_KS N, I, mj_PP c d r) (mj_E N (some (.int (s_X6_fd m e k j g I).1)) (s_X6_fd m e k j g I).2 (mj_PP c d r)) := by
  intro k
  induction k with
  | zero =>
    intro j g I hk hlo hj hF hz
    refine R_seg (φ := []) (pc' := 8) (L' := [.ref 42, .int e, .int g, .int (nI j)]) (st' := [.int 2058, .int (nI j)]) (σ' := (mj_KS N, I, mj_PP c d r)) 2 rfl trivial ?_
    refine R_br (q := (nI j : Int32) < 2058) (t := 11) (f := 56) (rest := []) rfl (fun h1 => absurd h1 (show ¬ nI j < nI 2058 from nI_nlt (by omega) (by omega))) (fun h1 => ?_)
    refine R_seg (φ := []) (pc' := 57) (L' := [.ref 42, .int e, .int g, .int (nI j)]) (st' := [.int g]) (σ' := (mj_KS N, I, mj_PP c d r)) 1 rfl trivial ?_
    exact R_rb rfl rfl (hz) (mj_leaf (by simp only [s_X6_fd, Bool.false_eq_true, ↓reduceIte, Nat.reduceAdd, Nat.reduceMul, mj_tn0, mj_tn1, mj_tn2, mj_tn3]) (by simp only [s_X6_fd, Bool.false_eq_true, ↓reduceIte, Nat.reduceAdd, Nat.reduceMul, mj_tn0, mj_tn1, mj_tn2, mj_tn3]))
  | succ k ih =>
    intro j g I hk hlo hj hF hz
    have hjm : j < 2058 := by omega
    have hin : mj_in (nI j) 2058 := mj_in_nI (by omega) (by omega)
    refine R_seg (φ := []) (pc' := 8) (L' := [.ref 42, .int e, .int g, .int (nI j)]) (st' := [.int 2058, .int (nI j)]) (σ' := (mj_KS N, I, mj_PP c d r)) 2 rfl trivial ?_
    refine R_br (q := (nI j : Int32) < 2058) (t := 11) (f := 56) (rest := []) rfl (fun h1 => ?_) (fun h1 => absurd (show nI j < nI 2058 from nI_lt hjm (by omega)) h1)
    refine R_seg (φ := [mj_in (nI j) 2058]) (pc' := 19) (L' := [.ref 42, .int e, .int g, .int (nI j)]) (st' := [.int (-9), .int (I 57 (nI j))]) (σ' := (mj_KS N, I, mj_PP c d r)) 5 rfl ⟨hin, trivial⟩ ?_
    refine R_br (q := (I 57 (nI j) : Int32) = (-9)) (t := 22) (f := 50) (rest := []) rfl (fun h2 => ?_) (fun h2 => ?_)
    · skip
      refine R_seg (φ := []) (pc' := 24) (L' := [.ref 42, .int e, .int g, .int (nI j)]) (st' := [.int (nI j), .ref 42]) (σ' := (mj_KS N, I, mj_PP c d r)) 2 rfl trivial ?_
      refine R_ce (idx := 178) (mid := 124) (kind := 0) (N := N) (M' := mj_m_X6_isState) (As := [.ref 42, .int (nI j)]) (rest := []) (I := I) (P := mj_PP c d r) (I' := I) (P' := mj_PP c d r) (v := some (.int (s_X6_isState (nI j) I))) rfl rfl rfl mj_mc124 mj_dc124 rfl rfl rfl rfl rfl rfl (x_X6_isState l b base D z N (nI j)  I c d r ) ?_
      refine R_seg (φ := []) (pc' := 27) (L' := [.ref 42, .int e, .int g, .int (nI j)]) (st' := [.int (s_X6_isState (nI j) I)]) (σ' := (mj_KS N, I, mj_PP c d r)) 0 rfl trivial ?_
      refine R_br (q := ((s_X6_isState (nI j) I) : Int32) = 0) (t := 50) (f := 30) (rest := []) rfl (fun h3 => ?_) (fun h3 => ?_)
      · skip
        refine R_seg (φ := []) (pc' := 4) (L' := [.ref 42, .int e, .int g, .int ((nI j) + 1)]) (st' := []) (σ' := (mj_KS N, I, mj_PP c d r)) 2 rfl trivial ?_
        rw [nI_1 j]
        rw [show s_X6_fd m e (k + 1) j g I = s_X6_fd m e k (j + 1) g I from by simp only [s_X6_fd, if_pos h2, if_pos h3, Bool.false_eq_true, ↓reduceIte, Nat.reduceAdd, Nat.reduceMul, mj_tn0, mj_tn1, mj_tn2, mj_tn3]]
        exact ih (j + 1) g I (by omega) (by omega) (by omega) (hF) (hz)
      · skip
        refine R_seg (φ := []) (pc' := 32) (L' := [.ref 42, .int e, .int g, .int (nI j)]) (st' := [.int (nI j), .ref 42]) (σ' := (mj_KS N, I, mj_PP c d r)) 2 rfl trivial ?_
        refine R_ce (idx := 181) (mid := 123) (kind := 0) (N := N) (M' := mj_m_X6_bestOf) (As := [.ref 42, .int (nI j)]) (rest := []) (I := I) (P := mj_PP c d r) (I' := I) (P' := mj_PP c d r) (v := some (.int (s_X6_bestOf (nI j) m I))) rfl rfl rfl mj_mc123 mj_dc123 rfl rfl rfl rfl rfl rfl (x_X6_bestOf l b base D z N (nI j) m  I c d r hm hF.1 (mj6_n0 hjm) (hF.2 j hjm h3)) ?_
        refine R_seg (φ := []) (pc' := 38) (L' := [.ref 42, .int e, .int g, .int (nI j)]) (st' := [.int (e - 1), .int (s_X6_bestOf (nI j) m I)]) (σ' := (mj_KS N, I, mj_PP c d r)) 3 rfl trivial ?_
        refine R_br (q := ((s_X6_bestOf (nI j) m I) : Int32) = e - 1) (t := 41) (f := 50) (rest := []) rfl (fun h4 => ?_) (fun h4 => ?_)
        · skip
          refine R_seg (φ := [mj_in (nI j) 2058]) (pc' := 4) (L' := [.ref 42, .int e, .int 1, .int ((nI j) + 1)]) (st' := []) (σ' := (mj_KS N, (mj_upI I 57 (nI j) e), mj_PP c d r)) 9 rfl ⟨hin, trivial⟩ ?_
          rw [nI_1 j]
          rw [show s_X6_fd m e (k + 1) j g I = s_X6_fd m e k (j + 1) 1 (mj_upI I 57 (nI j) e) from by simp only [s_X6_fd, if_pos h2, if_neg h3, if_pos h4, Bool.false_eq_true, ↓reduceIte, Nat.reduceAdd, Nat.reduceMul, mj_tn0, mj_tn1, mj_tn2, mj_tn3]]
          exact ih (j + 1) 1 (mj_upI I 57 (nI j) e) (by omega) (by omega) (by omega) (mj6_F_eq (mj6_ce_57 _ _ _) hF) (Or.inr rfl)
        · skip
          refine R_seg (φ := []) (pc' := 4) (L' := [.ref 42, .int e, .int g, .int ((nI j) + 1)]) (st' := []) (σ' := (mj_KS N, I, mj_PP c d r)) 2 rfl trivial ?_
          rw [nI_1 j]
          rw [show s_X6_fd m e (k + 1) j g I = s_X6_fd m e k (j + 1) g I from by simp only [s_X6_fd, if_pos h2, if_neg h3, if_neg h4, Bool.false_eq_true, ↓reduceIte, Nat.reduceAdd, Nat.reduceMul, mj_tn0, mj_tn1, mj_tn2, mj_tn3]]
          exact ih (j + 1) g I (by omega) (by omega) (by omega) (hF) (hz)
    · skip
      refine R_seg (φ := []) (pc' := 4) (L' := [.ref 42, .int e, .int g, .int ((nI j) + 1)]) (st' := []) (σ' := (mj_KS N, I, mj_PP c d r)) 2 rfl trivial ?_
      rw [nI_1 j]
      rw [show s_X6_fd m e (k + 1) j g I = s_X6_fd m e k (j + 1) g I from by simp only [s_X6_fd, if_neg h2, Bool.false_eq_true, ↓reduceIte, Nat.reduceAdd, Nat.reduceMul, mj_tn0, mj_tn1, mj_tn2, mj_tn3]]
      exact ih (j + 1) g I (by omega) (by omega) (by omega) (hF) (hz)
theorem mj6_fd01 (m : Nat) (e : Int32) : ∀ (k j : Nat) (g : Int32) (I : mj_I), (g = 0 ∨ g = 1) → ((s_X6_fd m e k j g I).1 = 0 ∨ (s_X6_fd m e k j g I).1 = 1) := by
  intro k
  induction k with
  | zero => intro j g I h; exact h
  | succ k ih =>
    intro j g I h
    rw [s_X6_fd]
    repeat' split
    all_goals first
      | exact ih _ _ _ h
      | exact ih _ _ _ (Or.inr rfl)
def s_X6_findDay (m : Nat) (e : Int32) (I : mj_I) : Int32 × mj_I := ((s_X6_fd m e 2058 0 0 I).1, (s_X6_fd m e 2058 0 0 I).2)
set_option maxHeartbeats 8000000 in
theorem x_X6_findDay (l : Launch) (b base : Nat) (D : va_G) (z : mj_K × (Int32 → Int32)) (N : Nat) (m : Nat) (e : Int32) (I : mj_I) (c d r : Nat) (hm : m ≤ 6) (hF : mj6_F m I) : mj_Rn l b base D z mj_m_X6_findDay 0 [.ref 42, .int e, mj_mk, mj_mk] [] (mj_KS N, I, mj_PP c d r) (mj_E N (some (.int (s_X6_findDay m e I).1)) (s_X6_findDay m e I).2 (mj_PP c d r)) := by
  refine R_seg (φ := []) (pc' := 4) (L' := [.ref 42, .int e, .int 0, .int 0]) (st' := []) (σ' := (mj_KS N, I, mj_PP c d r)) 4 rfl trivial ?_
  exact x_X6_fd l b base D z N m e c d r hm 2058 0 0 I (by omega) (by omega) (by omega) hF (Or.inl rfl)
theorem mj6_fd_ce (m : Nat) (e : Int32) : ∀ (k j : Nat) (g : Int32) (I : mj_I), mj6_ce I (s_X6_fd m e k j g I).2 := by
  intro k
  induction k with
  | zero => intro j g I; exact ⟨rfl, rfl, rfl, rfl, rfl, rfl⟩
  | succ k ih =>
    intro j g I
    rw [s_X6_fd]
    repeat' split
    all_goals exact ih _ _ _
theorem mj6_fD_ce (m : Nat) (e : Int32) (I : mj_I) : mj6_ce I (s_X6_findDay m e I).2 := by
  rw [s_X6_findDay]
  exact mj6_fd_ce m e 2058 0 0 I
theorem mj6_fD_01 (m : Nat) (e : Int32) (I : mj_I) : (s_X6_findDay m e I).1 = 0 ∨ (s_X6_findDay m e I).1 = 1 := by
  rw [s_X6_findDay]
  exact mj6_fd01 m e 2058 0 0 I (Or.inl rfl)
def s_X6_ga : Nat → Nat → mj_I → mj_I
  | 0, j, I => I
  | k + 1, j, I => if (I 42 23 : Int32) = 0 then (if ((nI j) / 6 : Int32) = 342 then (s_X6_ga  k (j + 1)  (mj_upI I 57 (nI j) 0)) else (s_X6_ga  k (j + 1)  (mj_upI I 57 (nI j) (-9)))) else I
set_option maxHeartbeats 8000000 in
theorem x_X6_ga (l : Launch) (b base : Nat) (D : va_G) (z : mj_K × (Int32 → Int32)) (N : Nat) (c d r : Nat) (Q : Option Value → mj_S → Prop) : ∀ (k j : Nat) (I : mj_I), k = 2058 - j → 0 ≤ j → j ≤ 2058 + 1 → ((∀ w_2 : Value, mj_Rn l b base D z mj_m_X6_findToGo 46 [.ref 42, .int 342, w_2, mj_mk] [] (mj_KS N, (s_X6_ga  k j  I), mj_PP c d r) (Q))) → mj_Rn l b base D z mj_m_X6_findToGo 6 [.ref 42, .int 342, .int (nI j), mj_mk] [] (mj_KS N, I, mj_PP c d r) (Q) := by
  intro k
  induction k with
  | zero =>
    intro j I hk hlo hj K
    refine R_seg (φ := []) (pc' := 10) (L' := [.ref 42, .int 342, .int (nI j), mj_mk]) (st' := [.int 2058, .int (nI j)]) (σ' := (mj_KS N, I, mj_PP c d r)) 2 rfl trivial ?_
    refine R_br (q := (nI j : Int32) < 2058) (t := 13) (f := 46) (rest := []) rfl (fun h1 => absurd h1 (show ¬ nI j < nI 2058 from nI_nlt (by omega) (by omega))) (fun h1 => ?_)
    exact K (.int (nI j))
  | succ k ih =>
    intro j I hk hlo hj K
    have hjm : j < 2058 := by omega
    have hin : mj_in (nI j) 2058 := mj_in_nI (by omega) (by omega)
    refine R_seg (φ := []) (pc' := 10) (L' := [.ref 42, .int 342, .int (nI j), mj_mk]) (st' := [.int 2058, .int (nI j)]) (σ' := (mj_KS N, I, mj_PP c d r)) 2 rfl trivial ?_
    refine R_br (q := (nI j : Int32) < 2058) (t := 13) (f := 46) (rest := []) rfl (fun h1 => ?_) (fun h1 => absurd (show nI j < nI 2058 from nI_lt hjm (by omega)) h1)
    refine R_seg (φ := []) (pc' := 17) (L' := [.ref 42, .int 342, .int (nI j), mj_mk]) (st' := [.int (I 42 23)]) (σ' := (mj_KS N, I, mj_PP c d r)) 2 rfl trivial ?_
    refine R_br (q := (I 42 23 : Int32) = 0) (t := 20) (f := 46) (rest := []) rfl (fun h2 => ?_) (fun h2 => ?_)
    · skip
      refine R_seg (φ := [¬ (6 : Int32) = 0]) (pc' := 30) (L' := [.ref 42, .int 342, .int (nI j), mj_mk]) (st' := [.int 342, .int ((nI j) / 6), .int (nI j), .ref 57]) (σ' := (mj_KS N, I, mj_PP c d r)) 7 rfl ⟨by decide, trivial⟩ ?_
      refine R_br (q := ((nI j) / 6 : Int32) = 342) (t := 33) (f := 37) (rest := [.int (nI j), .ref 57]) rfl (fun h3 => ?_) (fun h3 => ?_)
      · skip
        refine R_seg (φ := [mj_in (nI j) 2058]) (pc' := 6) (L' := [.ref 42, .int 342, .int ((nI j) + 1), mj_mk]) (st' := []) (σ' := (mj_KS N, (mj_upI I 57 (nI j) 0), mj_PP c d r)) 5 rfl ⟨hin, trivial⟩ ?_
        rw [nI_1 j]
        rw [show s_X6_ga  (k + 1) j  I = s_X6_ga  k (j + 1)  (mj_upI I 57 (nI j) 0) from by simp only [s_X6_ga, if_pos h2, if_pos h3, Bool.false_eq_true, ↓reduceIte, Nat.reduceAdd, Nat.reduceMul, mj_tn0, mj_tn1, mj_tn2, mj_tn3]] at K
        exact ih (j + 1)  (mj_upI I 57 (nI j) 0) (by omega) (by omega) (by omega) K
      · skip
        refine R_seg (φ := [mj_in (nI j) 2058]) (pc' := 6) (L' := [.ref 42, .int 342, .int ((nI j) + 1), mj_mk]) (st' := []) (σ' := (mj_KS N, (mj_upI I 57 (nI j) (-9)), mj_PP c d r)) 4 rfl ⟨hin, trivial⟩ ?_
        rw [nI_1 j]
        rw [show s_X6_ga  (k + 1) j  I = s_X6_ga  k (j + 1)  (mj_upI I 57 (nI j) (-9)) from by simp only [s_X6_ga, if_pos h2, if_neg h3, Bool.false_eq_true, ↓reduceIte, Nat.reduceAdd, Nat.reduceMul, mj_tn0, mj_tn1, mj_tn2, mj_tn3]] at K
        exact ih (j + 1)  (mj_upI I 57 (nI j) (-9)) (by omega) (by omega) (by omega) K
    · skip
      rw [show s_X6_ga  (k + 1) j  I = I from by simp only [s_X6_ga, if_neg h2, Bool.false_eq_true, ↓reduceIte, Nat.reduceAdd, Nat.reduceMul, mj_tn0, mj_tn1, mj_tn2, mj_tn3]] at K
      exact K (.int (nI j))
def s_X6_gb (m : Nat) : Nat → Nat → Int32 → mj_I → mj_I
  | 0, j, g, I => (mj_upI I 42 23 1)
  | k + 1, j, g, I => if (g : Int32) = 0 then (mj_upI I 42 23 1) else (s_X6_gb m k (j + 1) (((s_X6_findDay m (nI j) I).1)) (((s_X6_findDay m (nI j) I).2)))
set_option maxHeartbeats 8000000 in
theorem x_X6_gb (l : Launch) (b base : Nat) (D : va_G) (z : mj_K × (Int32 → Int32)) (N : Nat) (m : Nat) (c d r : Nat) (hm : m ≤ 6) : ∀ (k j : Nat) (g : Int32) (I : mj_I), k = 24 - j → 1 ≤ j → j ≤ 24 + 1 → (mj6_F m I) → mj_Rn l b base D z mj_m_X6_findToGo 61 [.ref 42, .int 342, .int g, .int (nI j)] [] (mj_KS N, I, mj_PP c d r) (mj_E N none (s_X6_gb m k j g I) (mj_PP c d r)) := by
  intro k
  induction k with
  | zero =>
    intro j g I hk hlo hj hF
    refine R_seg (φ := []) (pc' := 64) (L' := [.ref 42, .int 342, .int g, .int (nI j)]) (st' := [.int 24, .int (nI j)]) (σ' := (mj_KS N, I, mj_PP c d r)) 2 rfl trivial ?_
    refine R_br (q := (nI j : Int32) < 24) (t := 67) (f := 83) (rest := []) rfl (fun h1 => absurd h1 (show ¬ nI j < nI 24 from nI_nlt (by omega) (by omega))) (fun h1 => ?_)
    refine R_seg (φ := [(1 : Int32) = 0 ∨ (1 : Int32) = 1]) (pc' := 88) (L' := [.ref 42, .int 342, .int g, .int (nI j)]) (st' := []) (σ' := (mj_KS N, (mj_upI I 42 23 1), mj_PP c d r)) 3 rfl ⟨Or.inr rfl, trivial⟩ ?_
    exact R_rv rfl rfl (mj_leaf (by simp only [s_X6_gb, Bool.false_eq_true, ↓reduceIte, Nat.reduceAdd, Nat.reduceMul, mj_tn0, mj_tn1, mj_tn2, mj_tn3]) (by simp only [s_X6_gb, Bool.false_eq_true, ↓reduceIte, Nat.reduceAdd, Nat.reduceMul, mj_tn0, mj_tn1, mj_tn2, mj_tn3]))
  | succ k ih =>
    intro j g I hk hlo hj hF
    have hjm : j < 24 := by omega
    refine R_seg (φ := []) (pc' := 64) (L' := [.ref 42, .int 342, .int g, .int (nI j)]) (st' := [.int 24, .int (nI j)]) (σ' := (mj_KS N, I, mj_PP c d r)) 2 rfl trivial ?_
    refine R_br (q := (nI j : Int32) < 24) (t := 67) (f := 83) (rest := []) rfl (fun h1 => ?_) (fun h1 => absurd (show nI j < nI 24 from nI_lt hjm (by omega)) h1)
    refine R_seg (φ := []) (pc' := 68) (L' := [.ref 42, .int 342, .int g, .int (nI j)]) (st' := [.int g]) (σ' := (mj_KS N, I, mj_PP c d r)) 1 rfl trivial ?_
    refine R_br (q := (g : Int32) = 0) (t := 83) (f := 71) (rest := []) rfl (fun h2 => ?_) (fun h2 => ?_)
    · skip
      refine R_seg (φ := [(1 : Int32) = 0 ∨ (1 : Int32) = 1]) (pc' := 88) (L' := [.ref 42, .int 342, .int g, .int (nI j)]) (st' := []) (σ' := (mj_KS N, (mj_upI I 42 23 1), mj_PP c d r)) 3 rfl ⟨Or.inr rfl, trivial⟩ ?_
      exact R_rv rfl rfl (mj_leaf (by simp only [s_X6_gb, if_pos h2, Bool.false_eq_true, ↓reduceIte, Nat.reduceAdd, Nat.reduceMul, mj_tn0, mj_tn1, mj_tn2, mj_tn3]) (by simp only [s_X6_gb, if_pos h2, Bool.false_eq_true, ↓reduceIte, Nat.reduceAdd, Nat.reduceMul, mj_tn0, mj_tn1, mj_tn2, mj_tn3]))
    · skip
      refine R_seg (φ := []) (pc' := 73) (L' := [.ref 42, .int 342, .int g, .int (nI j)]) (st' := [.int (nI j), .ref 42]) (σ' := (mj_KS N, I, mj_PP c d r)) 2 rfl trivial ?_
      refine R_ce (idx := 184) (mid := 125) (kind := 0) (N := N) (M' := mj_m_X6_findDay) (As := [.ref 42, .int (nI j)]) (rest := []) (I := I) (P := mj_PP c d r) (I' := (s_X6_findDay m (nI j) I).2) (P' := mj_PP c d r) (v := some (.int ((s_X6_findDay m (nI j) I).1))) rfl rfl rfl mj_mc125 mj_dc125 rfl rfl rfl rfl rfl rfl (x_X6_findDay l b base D z N m (nI j)  I c d r hm hF) ?_
      have t1 : mj6_ce I (s_X6_findDay m (nI j) I).2 := mj6_fD_ce _ _ _
      generalize hg1 : (s_X6_findDay m (nI j) I) = g1 at t1 ⊢
      refine R_seg (φ := []) (pc' := 61) (L' := [.ref 42, .int 342, .int (g1.1), .int ((nI j) + 1)]) (st' := []) (σ' := (mj_KS N, g1.2, mj_PP c d r)) 3 rfl trivial ?_
      rw [nI_1 j]
      rw [show s_X6_gb m (k + 1) j g I = s_X6_gb m k (j + 1) (g1.1) (g1.2) from by simp only [s_X6_gb, hg1, if_neg h2, Bool.false_eq_true, ↓reduceIte, Nat.reduceAdd, Nat.reduceMul, mj_tn0, mj_tn1, mj_tn2, mj_tn3]]
      exact ih (j + 1) (g1.1) (g1.2) (by omega) (by omega) (by omega) (mj6_F_eq t1 hF)
theorem mj6_ga_ce : ∀ (k j : Nat) (I : mj_I), mj6_ce I (s_X6_ga k j I) := by
  intro k
  induction k with
  | zero => intro j I; exact ⟨rfl, rfl, rfl, rfl, rfl, rfl⟩
  | succ k ih =>
    intro j I
    rw [s_X6_ga]
    repeat' split
    all_goals first
      | exact ih _ _
      | exact ⟨rfl, rfl, rfl, rfl, rfl, rfl⟩
def s_X6_findToGo (m : Nat) (I : mj_I) : mj_I := if ((s_X6_ga  2058 0  I) 42 23 : Int32) = 0 then (s_X6_gb m 23 1 1 (s_X6_ga  2058 0  I)) else (s_X6_gb m 23 1 0 (s_X6_ga  2058 0  I))
set_option maxHeartbeats 8000000 in
theorem x_X6_findToGo (l : Launch) (b base : Nat) (D : va_G) (z : mj_K × (Int32 → Int32)) (N : Nat) (m : Nat) (I : mj_I) (c d r : Nat) (hm : m ≤ 6) (hF : mj6_F m I) : mj_Rn l b base D z mj_m_X6_findToGo 0 [.ref 42, mj_mk, mj_mk, mj_mk] [] (mj_KS N, I, mj_PP c d r) (mj_E N none (s_X6_findToGo m I) (mj_PP c d r)) := by
  refine R_seg (φ := []) (pc' := 6) (L' := [.ref 42, .int 342, .int 0, mj_mk]) (st' := []) (σ' := (mj_KS N, I, mj_PP c d r)) 4 rfl trivial ?_
  refine x_X6_ga l b base D z N  c d r _  2058 0  I (by omega) (by omega) (by omega) ?_
  intro w_2
  refine R_seg (φ := []) (pc' := 50) (L' := [.ref 42, .int 342, w_2, mj_mk]) (st' := [.int ((s_X6_ga  2058 0  I) 42 23)]) (σ' := (mj_KS N, (s_X6_ga  2058 0  I), mj_PP c d r)) 2 rfl trivial ?_
  refine R_br (q := ((s_X6_ga  2058 0  I) 42 23 : Int32) = 0) (t := 53) (f := 57) (rest := []) rfl (fun h1 => ?_) (fun h1 => ?_)
  · skip
    refine R_seg (φ := []) (pc' := 61) (L' := [.ref 42, .int 342, .int 1, .int 1]) (st' := []) (σ' := (mj_KS N, (s_X6_ga  2058 0  I), mj_PP c d r)) 5 rfl trivial ?_
    simp only [s_X6_findToGo, if_pos h1, Bool.false_eq_true, ↓reduceIte, Nat.reduceAdd, Nat.reduceMul, mj_tn0, mj_tn1, mj_tn2, mj_tn3]
    exact x_X6_gb l b base D z N m c d r hm 23 1 1 (s_X6_ga  2058 0  I) (by omega) (by omega) (by omega) (mj6_F_eq (mj6_ga_ce _ _ _) hF)
  · skip
    refine R_seg (φ := []) (pc' := 61) (L' := [.ref 42, .int 342, .int 0, .int 1]) (st' := []) (σ' := (mj_KS N, (s_X6_ga  2058 0  I), mj_PP c d r)) 4 rfl trivial ?_
    simp only [s_X6_findToGo, if_neg h1, Bool.false_eq_true, ↓reduceIte, Nat.reduceAdd, Nat.reduceMul, mj_tn0, mj_tn1, mj_tn2, mj_tn3]
    exact x_X6_gb l b base D z N m c d r hm 23 1 0 (s_X6_ga  2058 0  I) (by omega) (by omega) (by omega) (mj6_F_eq (mj6_ga_ce _ _ _) hF)
def mj6_fi (j : Nat) (g f : Int32) : Prop := (j = 0 ∧ g.toInt = 0 ∧ f.toInt = 6) ∨ (j = 1 ∧ 0 ≤ g.toInt ∧ g.toInt ≤ 36 ∧ f.toInt = 42) ∨ (j = 2 ∧ 0 ≤ g.toInt ∧ g.toInt ≤ 288 ∧ f.toInt = 294) ∨ (j = 3 ∧ 0 ≤ g.toInt ∧ g.toInt ≤ 2052 ∧ f.toInt = 2058)
theorem mj6_fi_f {j : Nat} {g f : Int32} (h : mj6_fi j g f) : 0 ≤ f.toInt ∧ f.toInt ≤ 2058 ∧ 0 ≤ g.toInt ∧ g.toInt ≤ 2052 ∧ (f * 7).toInt = 7 * f.toInt ∧ (f * 6).toInt = 6 * f.toInt := by
  unfold mj6_fi at h
  have e7 : (7 : Int32).toInt = 7 := by decide
  have e6 : (6 : Int32).toInt = 6 := by decide
  have hf : 0 ≤ f.toInt ∧ f.toInt ≤ 2058 := by omega
  have a : (f * 7).toInt = 7 * f.toInt := by rw [mj_imul (by rw [e7]; omega) (by rw [e7]; omega), e7]; omega
  have b : (f * 6).toInt = 6 * f.toInt := by rw [mj_imul (by rw [e6]; omega) (by rw [e6]; omega), e6]; omega
  exact ⟨hf.1, hf.2, by omega, by omega, a, b⟩
theorem mj6_fi_0 {j : Nat} {g f : Int32} (h : mj6_fi j g f) (hj : j < 3) : mj6_fi (j + 1) (g + 0) (f * 7) := by
  have a := mj6_fi_f h
  have e : (g + 0).toInt = g.toInt := by rw [mj_iadd (by rw [Int32.toInt_zero]; omega) (by rw [Int32.toInt_zero]; omega), Int32.toInt_zero]; omega
  unfold mj6_fi at h ⊢
  omega
theorem mj6_fi_6 {j : Nat} {g f : Int32} (h : mj6_fi j g f) (hj : j < 3) : mj6_fi (j + 1) (g + f * 6) (f * 7) := by
  have a := mj6_fi_f h
  have hj3 := h
  unfold mj6_fi at hj3
  have e : (g + f * 6).toInt = g.toInt + 6 * f.toInt := by rw [mj_iadd (by omega) (by omega)]; omega
  unfold mj6_fi at h ⊢
  omega
theorem mj6_fi_s {j : Nat} {g f s : Int32} (h : mj6_fi j g f) (hs : mj_in s 6) : 0 ≤ (g + s).toInt := by
  have a := mj6_fi_f h
  have b := mj_inb hs
  rw [mj_iadd (by omega) (by omega)]
  omega
def s_X6_ff (v : Int32) (s : Int32) : Nat → Nat → Int32 → Int32 → mj_I → Int32 × mj_I
  | 0, j, g, f, I => ((mj6_B (g + s) s I), I)
  | k + 1, j, g, f, I => if ((v >>> ((nI j) &&& 31)) &&& 1 : Int32) = 1 then (s_X6_ff v s k (j + 1) (g + 0) (f * 7) I) else (s_X6_ff v s k (j + 1) (g + (f * 6)) (f * 7) I)
set_option maxHeartbeats 8000000 in
theorem x_X6_ff (l : Launch) (b base : Nat) (D : va_G) (z : mj_K × (Int32 → Int32)) (N : Nat) (v : Int32) (s : Int32) (c d r : Nat) (hs : mj_in s 6) : ∀ (k j : Nat) (g : Int32) (f : Int32) (I : mj_I), k = 3 - j → 0 ≤ j → j ≤ 3 + 1 → (mj6_fi j g f) → mj_Rn l b base D z mj_m_X6_firstOf 9 [.ref 42, .int v, .int s, .int g, .int f, .int (nI j)] [] (mj_KS N, I, mj_PP c d r) (mj_E N (some (.int (s_X6_ff v s k j g f I).1)) (s_X6_ff v s k j g f I).2 (mj_PP c d r)) := by
  intro k
  induction k with
  | zero =>
    intro j g f I hk hlo hj hfi
    refine R_seg (φ := []) (pc' := 12) (L' := [.ref 42, .int v, .int s, .int g, .int f, .int (nI j)]) (st' := [.int 3, .int (nI j)]) (σ' := (mj_KS N, I, mj_PP c d r)) 2 rfl trivial ?_
    refine R_br (q := (nI j : Int32) < 3) (t := 15) (f := 50) (rest := []) rfl (fun h1 => absurd h1 (show ¬ nI j < nI 3 from nI_nlt (by omega) (by omega))) (fun h1 => ?_)
    refine R_seg (φ := []) (pc' := 55) (L' := [.ref 42, .int v, .int s, .int g, .int f, .int (nI j)]) (st' := [.int s, .int (g + s), .ref 42]) (σ' := (mj_KS N, I, mj_PP c d r)) 5 rfl trivial ?_
    refine R_ce (idx := 175) (mid := 122) (kind := 0) (N := N) (M' := mj_m_X6_behind) (As := [.ref 42, .int (g + s), .int s]) (rest := []) (I := I) (P := mj_PP c d r) (I' := I) (P' := mj_PP c d r) (v := some (.int (mj6_B (g + s) s I))) rfl rfl rfl mj_mc122 mj_dc122 rfl rfl rfl rfl rfl rfl (x_X6_behindI l b base D z N (g + s) s I c d r hs (mj6_fi_s hfi hs)) ?_
    refine R_seg (φ := []) (pc' := 58) (L' := [.ref 42, .int v, .int s, .int g, .int f, .int (nI j)]) (st' := [.int (mj6_B (g + s) s I)]) (σ' := (mj_KS N, I, mj_PP c d r)) 0 rfl trivial ?_
    exact R_ri rfl rfl (mj_leaf (by simp only [s_X6_ff, Bool.false_eq_true, ↓reduceIte, Nat.reduceAdd, Nat.reduceMul, mj_tn0, mj_tn1, mj_tn2, mj_tn3]) (by simp only [s_X6_ff, Bool.false_eq_true, ↓reduceIte, Nat.reduceAdd, Nat.reduceMul, mj_tn0, mj_tn1, mj_tn2, mj_tn3]))
  | succ k ih =>
    intro j g f I hk hlo hj hfi
    have hjm : j < 3 := by omega
    refine R_seg (φ := []) (pc' := 12) (L' := [.ref 42, .int v, .int s, .int g, .int f, .int (nI j)]) (st' := [.int 3, .int (nI j)]) (σ' := (mj_KS N, I, mj_PP c d r)) 2 rfl trivial ?_
    refine R_br (q := (nI j : Int32) < 3) (t := 15) (f := 50) (rest := []) rfl (fun h1 => ?_) (fun h1 => absurd (show nI j < nI 3 from nI_lt hjm (by omega)) h1)
    refine R_seg (φ := []) (pc' := 23) (L' := [.ref 42, .int v, .int s, .int g, .int f, .int (nI j)]) (st' := [.int 1, .int ((v >>> ((nI j) &&& 31)) &&& 1), .int g]) (σ' := (mj_KS N, I, mj_PP c d r)) 7 rfl trivial ?_
    refine R_br (q := ((v >>> ((nI j) &&& 31)) &&& 1 : Int32) = 1) (t := 26) (f := 30) (rest := [.int g]) rfl (fun h2 => ?_) (fun h2 => ?_)
    · skip
      refine R_seg (φ := []) (pc' := 9) (L' := [.ref 42, .int v, .int s, .int (g + 0), .int (f * 7), .int ((nI j) + 1)]) (st' := []) (σ' := (mj_KS N, I, mj_PP c d r)) 10 rfl trivial ?_
      rw [nI_1 j]
      rw [show s_X6_ff v s (k + 1) j g f I = s_X6_ff v s k (j + 1) (g + 0) (f * 7) I from by simp only [s_X6_ff, if_pos h2, Bool.false_eq_true, ↓reduceIte, Nat.reduceAdd, Nat.reduceMul, mj_tn0, mj_tn1, mj_tn2, mj_tn3]]
      exact ih (j + 1) (g + 0) (f * 7) I (by omega) (by omega) (by omega) (mj6_fi_0 hfi hjm)
    · skip
      refine R_seg (φ := []) (pc' := 9) (L' := [.ref 42, .int v, .int s, .int (g + (f * 6)), .int (f * 7), .int ((nI j) + 1)]) (st' := []) (σ' := (mj_KS N, I, mj_PP c d r)) 11 rfl trivial ?_
      rw [nI_1 j]
      rw [show s_X6_ff v s (k + 1) j g f I = s_X6_ff v s k (j + 1) (g + (f * 6)) (f * 7) I from by simp only [s_X6_ff, if_neg h2, Bool.false_eq_true, ↓reduceIte, Nat.reduceAdd, Nat.reduceMul, mj_tn0, mj_tn1, mj_tn2, mj_tn3]]
      exact ih (j + 1) (g + (f * 6)) (f * 7) I (by omega) (by omega) (by omega) (mj6_fi_6 hfi hjm)
def s_X6_firstOf (v : Int32) (s : Int32) (I : mj_I) : Int32 × mj_I := ((s_X6_ff v s 3 0 0 6 I).1, (s_X6_ff v s 3 0 0 6 I).2)
set_option maxHeartbeats 8000000 in
theorem x_X6_firstOf (l : Launch) (b base : Nat) (D : va_G) (z : mj_K × (Int32 → Int32)) (N : Nat) (v : Int32) (s : Int32) (I : mj_I) (c d r : Nat) (hs : mj_in s 6) : mj_Rn l b base D z mj_m_X6_firstOf 0 [.ref 42, .int v, .int s, mj_mk, mj_mk, mj_mk] [] (mj_KS N, I, mj_PP c d r) (mj_E N (some (.int (s_X6_firstOf v s I).1)) (s_X6_firstOf v s I).2 (mj_PP c d r)) := by
  refine R_seg (φ := []) (pc' := 9) (L' := [.ref 42, .int v, .int s, .int 0, .int 6, .int 0]) (st' := []) (σ' := (mj_KS N, I, mj_PP c d r)) 6 rfl trivial ?_
  exact x_X6_ff l b base D z N v s c d r hs 3 0 0 6 I (by omega) (by omega) (by omega) (Or.inl (by decide))
def mj6_FO (v s : Int32) (I : mj_I) : Int32 := (s_X6_firstOf v s I).1
theorem mj6_FO_I (v s : Int32) (I : mj_I) : (s_X6_firstOf v s I).2 = I := by
  have key : ∀ (k j : Nat) (g f : Int32), (s_X6_ff v s k j g f I).2 = I := by
    intro k
    induction k with
    | zero => intros; rfl
    | succ k ih =>
      intro j g f
      rw [s_X6_ff]
      split
      all_goals exact ih _ _ _
  exact key 3 0 0 6
theorem x_X6_firstOfI (l : Launch) (b base : Nat) (D : va_G) (z : mj_K × (Int32 → Int32)) (N : Nat) (v : Int32) (s : Int32) (I : mj_I) (c d r : Nat) (hs : mj_in s 6) : mj_Rn l b base D z mj_m_X6_firstOf 0 [.ref 42, .int v, .int s, mj_mk, mj_mk, mj_mk] [] (mj_KS N, I, mj_PP c d r) (mj_E N (some (.int (mj6_FO v s I))) I (mj_PP c d r)) := by
  have h := x_X6_firstOf l b base D z N v s I c d r hs
  rw [mj6_FO_I] at h
  exact h
def mj6_go1 (v : Int32) (I : mj_I) (t : Nat) : Prop := ¬ s_X6_mayGo (v - v / 6 * 6) (nI t) I = 0 ∧ I 57 (mj6_B v (nI t) I) = I 57 v - 1
theorem mj6_go1_s {v : Int32} {I : mj_I} {m j : Nat} (hx : ∃ t, j ≤ t ∧ t < m ∧ mj6_go1 v I t) (hn : ¬ mj6_go1 v I j) : ∃ t, j + 1 ≤ t ∧ t < m ∧ mj6_go1 v I t := by
  obtain ⟨t, h1, h2, h3⟩ := hx
  refine ⟨t, ?_, h2, h3⟩
  rcases Nat.lt_or_ge j t with q | q
  · exact q
  · have : t = j := by omega
    subst this
    exact absurd h3 hn
def s_X6_nb (v : Int32) (m : Nat) : Nat → Nat → mj_I → Int32 × mj_I
  | 0, j, I => (0, I)
  | k + 1, j, I => if ((s_X6_mayGo (v - v / 6 * 6) (nI j) I) : Int32) = 0 then (s_X6_nb v m k (j + 1)  I) else (if (I 57 (mj6_B v (nI j) I) : Int32) = (I 57 v) - 1 then ((mj6_B v (nI j) I), I) else (s_X6_nb v m k (j + 1)  I))
set_option maxHeartbeats 8000000 in
theorem x_X6_nb (l : Launch) (b base : Nat) (D : va_G) (z : mj_K × (Int32 → Int32)) (N : Nat) (v : Int32) (m : Nat) (c d r : Nat) (hm : m ≤ 6) (hv : mj_in v 2058) : ∀ (k j : Nat) (I : mj_I), k = m - j → 0 ≤ j → j ≤ m + 1 → (∃ t, j ≤ t ∧ t < m ∧ mj6_go1 v I t) → (∀ t : Nat, t < m → mj_in (mj6_B v (nI t) I) 2058) → mj_Rn l b base D z mj_m_X6_nextBest 2 [.ref 42, .int v, .int (nI j)] [] (mj_KS N, I, mj_PP c d r) (mj_E N (some (.int (s_X6_nb v m k j  I).1)) (s_X6_nb v m k j  I).2 (mj_PP c d r)) := by
  intro k
  induction k with
  | zero =>
    intro j I hk hlo hj hx hB
    exact absurd hx (by rintro ⟨t, h1, h2, _⟩; omega)
  | succ k ih =>
    intro j I hk hlo hj hx hB
    have hjm : j < m := by omega
    have hin : mj_in (nI j) 6 := mj_in_nI (by omega) (by omega)
    refine R_seg (φ := [¬ (6 : Int32) = 0]) (pc' := 8) (L' := [.ref 42, .int v, .int (nI j)]) (st' := [.int (nI j), .int (v - v / 6 * 6), .ref 42]) (σ' := (mj_KS N, I, mj_PP c d r)) 5 rfl ⟨by decide, trivial⟩ ?_
    refine R_ce (idx := 152) (mid := 113) (kind := 0) (N := N) (M' := mj_m_X6_mayGo) (As := [.ref 42, .int (v - v / 6 * 6), .int (nI j)]) (rest := []) (I := I) (P := mj_PP c d r) (I' := I) (P' := mj_PP c d r) (v := some (.int (s_X6_mayGo (v - v / 6 * 6) (nI j) I))) rfl rfl rfl mj_mc113 mj_dc113 rfl rfl rfl rfl rfl rfl (x_X6_mayGo l b base D z N (v - v / 6 * 6) (nI j) I c d r ((mj6_q6 (mj_inb hv).1).1)) ?_
    refine R_seg (φ := []) (pc' := 11) (L' := [.ref 42, .int v, .int (nI j)]) (st' := [.int (s_X6_mayGo (v - v / 6 * 6) (nI j) I)]) (σ' := (mj_KS N, I, mj_PP c d r)) 0 rfl trivial ?_
    refine R_br (q := ((s_X6_mayGo (v - v / 6 * 6) (nI j) I) : Int32) = 0) (t := 36) (f := 14) (rest := []) rfl (fun h1 => ?_) (fun h1 => ?_)
    · skip
      refine R_seg (φ := []) (pc' := 2) (L' := [.ref 42, .int v, .int ((nI j) + 1)]) (st' := []) (σ' := (mj_KS N, I, mj_PP c d r)) 2 rfl trivial ?_
      rw [nI_1 j]
      rw [show s_X6_nb v m (k + 1) j  I = s_X6_nb v m k (j + 1)  I from by simp only [s_X6_nb, if_pos h1, Bool.false_eq_true, ↓reduceIte, Nat.reduceAdd, Nat.reduceMul, mj_tn0, mj_tn1, mj_tn2, mj_tn3]]
      exact ih (j + 1)  I (by omega) (by omega) (by omega) (mj6_go1_s hx (fun q => q.1 h1)) (hB)
    · skip
      refine R_seg (φ := []) (pc' := 21) (L' := [.ref 42, .int v, .int (nI j)]) (st' := [.int (nI j), .int v, .ref 42, .ref 57]) (σ' := (mj_KS N, I, mj_PP c d r)) 5 rfl trivial ?_
      refine R_ce (idx := 175) (mid := 122) (kind := 0) (N := N) (M' := mj_m_X6_behind) (As := [.ref 42, .int v, .int (nI j)]) (rest := [.ref 57]) (I := I) (P := mj_PP c d r) (I' := I) (P' := mj_PP c d r) (v := some (.int (mj6_B v (nI j) I))) rfl rfl rfl mj_mc122 mj_dc122 rfl rfl rfl rfl rfl rfl (x_X6_behindI l b base D z N v (nI j) I c d r hin (mj_inb hv).1) ?_
      refine R_seg (φ := [mj_in (mj6_B v (nI j) I) 2058, mj_in v 2058]) (pc' := 33) (L' := [.ref 42, .int v, .int (nI j)]) (st' := [.int ((I 57 v) - 1), .int (I 57 (mj6_B v (nI j) I))]) (σ' := (mj_KS N, I, mj_PP c d r)) 7 rfl ⟨(hB j hjm), hv, trivial⟩ ?_
      refine R_br (q := (I 57 (mj6_B v (nI j) I) : Int32) = (I 57 v) - 1) (t := 42) (f := 36) (rest := []) rfl (fun h2 => ?_) (fun h2 => ?_)
      · skip
        refine R_seg (φ := []) (pc' := 45) (L' := [.ref 42, .int v, .int (nI j)]) (st' := [.int (nI j), .int v, .ref 42]) (σ' := (mj_KS N, I, mj_PP c d r)) 3 rfl trivial ?_
        refine R_ce (idx := 175) (mid := 122) (kind := 0) (N := N) (M' := mj_m_X6_behind) (As := [.ref 42, .int v, .int (nI j)]) (rest := []) (I := I) (P := mj_PP c d r) (I' := I) (P' := mj_PP c d r) (v := some (.int (mj6_B v (nI j) I))) rfl rfl rfl mj_mc122 mj_dc122 rfl rfl rfl rfl rfl rfl (x_X6_behindI l b base D z N v (nI j) I c d r hin (mj_inb hv).1) ?_
        refine R_seg (φ := []) (pc' := 48) (L' := [.ref 42, .int v, .int (nI j)]) (st' := [.int (mj6_B v (nI j) I)]) (σ' := (mj_KS N, I, mj_PP c d r)) 0 rfl trivial ?_
        exact R_ri rfl rfl (mj_leaf (by simp only [s_X6_nb, if_neg h1, if_pos h2, Bool.false_eq_true, ↓reduceIte, Nat.reduceAdd, Nat.reduceMul, mj_tn0, mj_tn1, mj_tn2, mj_tn3]) (by simp only [s_X6_nb, if_neg h1, if_pos h2, Bool.false_eq_true, ↓reduceIte, Nat.reduceAdd, Nat.reduceMul, mj_tn0, mj_tn1, mj_tn2, mj_tn3]))
      · skip
        refine R_seg (φ := []) (pc' := 2) (L' := [.ref 42, .int v, .int ((nI j) + 1)]) (st' := []) (σ' := (mj_KS N, I, mj_PP c d r)) 2 rfl trivial ?_
        rw [nI_1 j]
        rw [show s_X6_nb v m (k + 1) j  I = s_X6_nb v m k (j + 1)  I from by simp only [s_X6_nb, if_neg h1, if_neg h2, Bool.false_eq_true, ↓reduceIte, Nat.reduceAdd, Nat.reduceMul, mj_tn0, mj_tn1, mj_tn2, mj_tn3]]
        exact ih (j + 1)  I (by omega) (by omega) (by omega) (mj6_go1_s hx (fun q => h2 q.2)) (hB)
def s_X6_nextBest (v : Int32) (m : Nat) (I : mj_I) : Int32 × mj_I := ((s_X6_nb v m m 0  I).1, (s_X6_nb v m m 0  I).2)
set_option maxHeartbeats 8000000 in
theorem x_X6_nextBest (l : Launch) (b base : Nat) (D : va_G) (z : mj_K × (Int32 → Int32)) (N : Nat) (v : Int32) (m : Nat) (I : mj_I) (c d r : Nat) (hm : m ≤ 6) (hv : mj_in v 2058) (hB : ∀ t : Nat, t < m → mj_in (mj6_B v (nI t) I) 2058) (hx : ∃ t, 0 ≤ t ∧ t < m ∧ mj6_go1 v I t) : mj_Rn l b base D z mj_m_X6_nextBest 0 [.ref 42, .int v, mj_mk] [] (mj_KS N, I, mj_PP c d r) (mj_E N (some (.int (s_X6_nextBest v m I).1)) (s_X6_nextBest v m I).2 (mj_PP c d r)) := by
  refine R_seg (φ := []) (pc' := 2) (L' := [.ref 42, .int v, .int 0]) (st' := []) (σ' := (mj_KS N, I, mj_PP c d r)) 2 rfl trivial ?_
  exact x_X6_nb l b base D z N v m c d r hm hv m 0  I (by omega) (by omega) (by omega) hx hB
def mj6_NB (v : Int32) (m : Nat) (I : mj_I) : Int32 := (s_X6_nextBest v m I).1
theorem mj6_nb_l (v : Int32) (m : Nat) (I : mj_I) : ∀ (k j : Nat), k = m - j → (∃ t, j ≤ t ∧ t < m ∧ mj6_go1 v I t) → (s_X6_nb v m k j I).2 = I ∧ ∃ t, t < m ∧ mj6_go1 v I t ∧ (s_X6_nb v m k j I).1 = mj6_B v (nI t) I ∧ ∀ u, j ≤ u → u < t → ¬ mj6_go1 v I u := by
  intro k
  induction k with
  | zero =>
    intro j hk hx
    exact absurd hx (by rintro ⟨t, h1, h2, _⟩; omega)
  | succ k ih =>
    intro j hk hx
    have key : ¬ mj6_go1 v I j → (s_X6_nb v m k (j + 1) I).2 = I ∧ ∃ t, t < m ∧ mj6_go1 v I t ∧ (s_X6_nb v m k (j + 1) I).1 = mj6_B v (nI t) I ∧ ∀ u, j ≤ u → u < t → ¬ mj6_go1 v I u := by
      intro hn
      obtain ⟨a, t, b1, b2, b3, b4⟩ := ih (j + 1) (by omega) (mj6_go1_s hx hn)
      refine ⟨a, t, b1, b2, b3, fun u h1 h2 => ?_⟩
      rcases Nat.lt_or_ge j u with q | q
      · exact b4 u q h2
      · have : u = j := by omega
        subst this
        exact hn
    rw [s_X6_nb]
    split
    · exact key (fun q => q.1 (by assumption))
    · split
      · refine ⟨rfl, j, by omega, ⟨by assumption, by assumption⟩, rfl, fun u h1 h2 => absurd h1 (by omega)⟩
      · exact key (fun q => absurd q.2 (by assumption))
theorem mj6_nb_ok {v : Int32} {m : Nat} {I : mj_I} (hx : ∃ t, 0 ≤ t ∧ t < m ∧ mj6_go1 v I t) : (s_X6_nextBest v m I).2 = I ∧ ∃ t, t < m ∧ mj6_go1 v I t ∧ mj6_NB v m I = mj6_B v (nI t) I ∧ ∀ u, 0 ≤ u → u < t → ¬ mj6_go1 v I u := mj6_nb_l v m I m 0 rfl hx
theorem x_X6_nextBestI (l : Launch) (b base : Nat) (D : va_G) (z : mj_K × (Int32 → Int32)) (N : Nat) (v : Int32) (m : Nat) (I : mj_I) (c d r : Nat) (hm : m ≤ 6) (hv : mj_in v 2058) (hB : ∀ t : Nat, t < m → mj_in (mj6_B v (nI t) I) 2058) (hx : ∃ t, 0 ≤ t ∧ t < m ∧ mj6_go1 v I t) : mj_Rn l b base D z mj_m_X6_nextBest 0 [.ref 42, .int v, mj_mk] [] (mj_KS N, I, mj_PP c d r) (mj_E N (some (.int (mj6_NB v m I))) I (mj_PP c d r)) := by
  have h := x_X6_nextBest l b base D z N v m I c d r hm hv hB hx
  rw [(mj6_nb_ok hx).1] at h
  exact h
/-- a table by which each number that has days to go has a next one -/
def mj6_N (m : Nat) (I : mj_I) : Prop := (∀ v : Int32, mj_in v 2058 → ¬ s_X6_isState v I = 0 → 1 ≤ (I 57 v).toInt → ∃ t, 0 ≤ t ∧ t < m ∧ mj6_go1 v I t) ∧ ∀ v : Int32, mj_in v 2058 → ¬ s_X6_isState v I = 0 → ∀ t : Nat, t < m → mj_in (mj6_B v (nI t) I) 2058 ∧ ¬ s_X6_isState (mj6_B v (nI t) I) I = 0
def mj6_W (w j : Nat) (g : Int32) (I : mj_I) : Prop := mj_in g 2058 ∧ ¬ s_X6_isState g I = 0 ∧ (w : Int) + 1 - (j : Int) ≤ (I 57 g).toInt
theorem mj6_W_s {m w j : Nat} {g : Int32} {I : mj_I} (hN : mj6_N m I) (h : mj6_W w j g I) (hj : j < w + 1) : mj6_W w (j + 1) (mj6_NB g m I) I := by
  obtain ⟨h1, h2, h3⟩ := h
  obtain ⟨_, t, b1, b2, b3, _⟩ := mj6_nb_ok (hN.1 g h1 h2 (by omega))
  have c := hN.2 g h1 h2 t b1
  rw [b3]
  refine ⟨c.1, c.2, ?_⟩
  have e1 : (1 : Int32).toInt = 1 := by decide
  have e2 := Int32.toInt_lt (I 57 g)
  rw [b2.2, mj_isub (by omega) (by omega), e1]
  omega
theorem mj6_kw {k : Int32} {I : mj_I} (h : ¬ s_X6_within k (-1) 23 I = 0) (h2 : ¬ k = -1) : ∃ w : Nat, w ≤ 23 ∧ k = nI w := by
  have a := mj6_wi h
  have b := mj_iE h2
  have e1 : ((-1) : Int32).toInt = -1 := by decide
  have e2 : (23 : Int32).toInt = 23 := by decide
  exact ⟨k.toInt.toNat, by omega, mj_ofI (by rw [nI_toInt (by omega)]; omega)⟩
def mj6_Q1 (m : Nat) (I : mj_I) (g : Int32) : Prop := mj_in g 2058 ∧ ¬ s_X6_isState g I = 0 ∧ mj6_N m I
theorem mj6_W_0 {m w : Nat} {g : Int32} {I : mj_I} (h : mj6_Q1 m I g) (h1 : ¬ I 57 g < nI w) (hw : w ≤ 23) : mj6_W w 1 g I := by
  have a := mj_iN h1
  rw [nI_toInt (by omega)] at a
  exact ⟨h.1, h.2.1, by omega⟩
def s_X6_qu (v : Int32) (s : Int32) (w : Nat) (m : Nat) : Nat → Nat → Int32 → mj_I → Int32 × mj_I
  | 0, j, g, I => (g - g / 6 * 6, I)
  | k + 1, j, g, I => s_X6_qu v s w m k (j + 1) (mj6_NB g m I) I
set_option maxHeartbeats 8000000 in
theorem x_X6_qu (l : Launch) (b base : Nat) (D : va_G) (z : mj_K × (Int32 → Int32)) (N : Nat) (v : Int32) (s : Int32) (w : Nat) (m : Nat) (c d r : Nat) (hm : m ≤ 6) (hw : w ≤ 23) : ∀ (k j : Nat) (g : Int32) (I : mj_I), k = (w + 1) - j → 1 ≤ j → j ≤ (w + 1) + 1 → (mj6_N m I) → (mj6_W w j g I) → mj_Rn l b base D z mj_m_X6_quickest 130 [.ref 42, .int v, .int s, .int (nI w), .int g, .int (nI j)] [] (mj_KS N, I, mj_PP c d r) (mj_E N (some (.int (s_X6_qu v s w m k j g I).1)) (s_X6_qu v s w m k j g I).2 (mj_PP c d r)) := by
  intro k
  induction k with
  | zero =>
    intro j g I hk hlo hj hN hW
    refine R_seg (φ := []) (pc' := 133) (L' := [.ref 42, .int v, .int s, .int (nI w), .int g, .int (nI j)]) (st' := [.int (nI w), .int (nI j)]) (σ' := (mj_KS N, I, mj_PP c d r)) 2 rfl trivial ?_
    refine R_br (q := (nI w : Int32) < nI j) (t := 150) (f := 136) (rest := []) rfl (fun h1 => ?_) (fun h1 => absurd (nI_lt (by omega) (by omega)) h1)
    refine R_seg (φ := [¬ (6 : Int32) = 0]) (pc' := 155) (L' := [.ref 42, .int v, .int s, .int (nI w), .int g, .int (nI j)]) (st' := [.int (g - g / 6 * 6)]) (σ' := (mj_KS N, I, mj_PP c d r)) 3 rfl ⟨by decide, trivial⟩ ?_
    exact R_ri rfl rfl (mj_leaf (by simp only [s_X6_qu, Bool.false_eq_true, ↓reduceIte, Nat.reduceAdd, Nat.reduceMul, mj_tn0, mj_tn1, mj_tn2, mj_tn3]) (by simp only [s_X6_qu, Bool.false_eq_true, ↓reduceIte, Nat.reduceAdd, Nat.reduceMul, mj_tn0, mj_tn1, mj_tn2, mj_tn3]))
  | succ k ih =>
    intro j g I hk hlo hj hN hW
    have hjm : j < (w + 1) := by omega
    refine R_seg (φ := []) (pc' := 133) (L' := [.ref 42, .int v, .int s, .int (nI w), .int g, .int (nI j)]) (st' := [.int (nI w), .int (nI j)]) (σ' := (mj_KS N, I, mj_PP c d r)) 2 rfl trivial ?_
    refine R_br (q := (nI w : Int32) < nI j) (t := 150) (f := 136) (rest := []) rfl (fun h1 => absurd h1 (nI_nlt (by omega) (by omega))) (fun h1 => ?_)
    refine R_seg (φ := []) (pc' := 139) (L' := [.ref 42, .int v, .int s, .int (nI w), .int g, .int (nI j)]) (st' := [.int g, .ref 42]) (σ' := (mj_KS N, I, mj_PP c d r)) 2 rfl trivial ?_
    refine R_ce (idx := 193) (mid := 129) (kind := 0) (N := N) (M' := mj_m_X6_nextBest) (As := [.ref 42, .int g]) (rest := []) (I := I) (P := mj_PP c d r) (I' := I) (P' := mj_PP c d r) (v := some (.int (mj6_NB g m I))) rfl rfl rfl mj_mc129 mj_dc129 rfl rfl rfl rfl rfl rfl (x_X6_nextBestI l b base D z N g m I c d r hm hW.1 (fun t ht => (hN.2 _ hW.1 hW.2.1 t ht).1) (hN.1 _ hW.1 hW.2.1 (by have := hW.2.2; omega))) ?_
    refine R_seg (φ := []) (pc' := 130) (L' := [.ref 42, .int v, .int s, .int (nI w), .int (mj6_NB g m I), .int ((nI j) + 1)]) (st' := []) (σ' := (mj_KS N, I, mj_PP c d r)) 3 rfl trivial ?_
    rw [nI_1 j]
    rw [show s_X6_qu v s w m (k + 1) j g I = s_X6_qu v s w m k (j + 1) (mj6_NB g m I) I from by simp only [s_X6_qu, Bool.false_eq_true, ↓reduceIte, Nat.reduceAdd, Nat.reduceMul, mj_tn0, mj_tn1, mj_tn2, mj_tn3]]
    exact ih (j + 1) (mj6_NB g m I) I (by omega) (by omega) (by omega) (hN) (mj6_W_s hN hW hjm)
def s_X6_quickest (m : Nat) (v : Int32) (s : Int32) (k : Int32) (I : mj_I) : Int32 × mj_I := if ((s_X6_isStreet s I) : Int32) = 0 then ((-1), I) else (if ((s_X6_within v 0 ((1 <<< ((I 42 6) &&& 31)) - 1) I) : Int32) = 0 then ((-2), I) else (if ((s_X6_within k (-1) 23 I) : Int32) = 0 then ((-2), I) else (if (v : Int32) = 0 then (if (k : Int32) = (-1) then (0, I) else ((-9), I)) else (if (k : Int32) = (-1) then (if (((s_X6_findToGo m I)) 57 (mj6_FO v s ((s_X6_findToGo m I))) : Int32) = (-9) then ((-9), (s_X6_findToGo m I)) else ((((s_X6_findToGo m I)) 57 (mj6_FO v s ((s_X6_findToGo m I)))) + 1, (s_X6_findToGo m I))) else (if (((s_X6_findToGo m I)) 57 (mj6_FO v s ((s_X6_findToGo m I))) : Int32) = (-9) then ((-9), (s_X6_findToGo m I)) else (if (((s_X6_findToGo m I)) 57 (mj6_FO v s ((s_X6_findToGo m I))) : Int32) < k then ((-9), (s_X6_findToGo m I)) else ((s_X6_qu v s k.toNatClampNeg m (k.toNatClampNeg) 1 (mj6_FO v s ((s_X6_findToGo m I))) ((s_X6_findToGo m I))).1, (s_X6_qu v s k.toNatClampNeg m (k.toNatClampNeg) 1 (mj6_FO v s ((s_X6_findToGo m I))) ((s_X6_findToGo m I))).2)))))))
set_option maxHeartbeats 8000000 in
theorem x_X6_quickest (l : Launch) (b base : Nat) (D : va_G) (z : mj_K × (Int32 → Int32)) (N : Nat) (m : Nat) (v : Int32) (s : Int32) (k : Int32) (I : mj_I) (c d r : Nat) (hm : m ≤ 6) (hS : I 42 5 = nI m) (hF : mj6_F m I) (hQ : ¬ s_X6_isStreet s I = 0 → ¬ s_X6_within v 0 ((1 <<< (I 42 6 &&& 31)) - 1) I = 0 → mj6_Q1 m (s_X6_findToGo m I) (mj6_FO v s (s_X6_findToGo m I))) : mj_Rn l b base D z mj_m_X6_quickest 0 [.ref 42, .int v, .int s, .int k, mj_mk, mj_mk] [] (mj_KS N, I, mj_PP c d r) (mj_E N (some (.int (s_X6_quickest m v s k I).1)) (s_X6_quickest m v s k I).2 (mj_PP c d r)) := by
  refine R_seg (φ := []) (pc' := 2) (L' := [.ref 42, .int v, .int s, .int k, mj_mk, mj_mk]) (st' := [.int s, .ref 42]) (σ' := (mj_KS N, I, mj_PP c d r)) 2 rfl trivial ?_
  refine R_ce (idx := 137) (mid := 99) (kind := 0) (N := N) (M' := mj_m_X6_isStreet) (As := [.ref 42, .int s]) (rest := []) (I := I) (P := mj_PP c d r) (I' := I) (P' := mj_PP c d r) (v := some (.int (s_X6_isStreet s I))) rfl rfl rfl mj_mc99 mj_dc99 rfl rfl rfl rfl rfl rfl (x_X6_isStreet l b base D z N s I c d r) ?_
  refine R_seg (φ := []) (pc' := 5) (L' := [.ref 42, .int v, .int s, .int k, mj_mk, mj_mk]) (st' := [.int (s_X6_isStreet s I)]) (σ' := (mj_KS N, I, mj_PP c d r)) 0 rfl trivial ?_
  refine R_br (q := ((s_X6_isStreet s I) : Int32) = 0) (t := 8) (f := 10) (rest := []) rfl (fun h1 => ?_) (fun h1 => ?_)
  · skip
    refine R_seg (φ := []) (pc' := 9) (L' := [.ref 42, .int v, .int s, .int k, mj_mk, mj_mk]) (st' := [.int (-1)]) (σ' := (mj_KS N, I, mj_PP c d r)) 1 rfl trivial ?_
    exact R_ri rfl rfl (mj_leaf (by simp only [s_X6_quickest, if_pos h1, Bool.false_eq_true, ↓reduceIte, Nat.reduceAdd, Nat.reduceMul, mj_tn0, mj_tn1, mj_tn2, mj_tn3]) (by simp only [s_X6_quickest, if_pos h1, Bool.false_eq_true, ↓reduceIte, Nat.reduceAdd, Nat.reduceMul, mj_tn0, mj_tn1, mj_tn2, mj_tn3]))
  · skip
    refine R_seg (φ := []) (pc' := 20) (L' := [.ref 42, .int v, .int s, .int k, mj_mk, mj_mk]) (st' := [.int ((1 <<< ((I 42 6) &&& 31)) - 1), .int 0, .int v]) (σ' := (mj_KS N, I, mj_PP c d r)) 8 rfl trivial ?_
    refine R_ce (idx := 76) (mid := 95) (kind := 1) (N := N) (M' := mj_m_X6_within) (As := [.int v, .int 0, .int ((1 <<< ((I 42 6) &&& 31)) - 1)]) (rest := []) (I := I) (P := mj_PP c d r) (I' := I) (P' := mj_PP c d r) (v := some (.int (s_X6_within v 0 ((1 <<< ((I 42 6) &&& 31)) - 1) I))) rfl rfl rfl mj_mc95 mj_dc95 rfl rfl rfl rfl rfl rfl (x_X6_within l b base D z N v 0 ((1 <<< ((I 42 6) &&& 31)) - 1) I c d r) ?_
    refine R_seg (φ := []) (pc' := 23) (L' := [.ref 42, .int v, .int s, .int k, mj_mk, mj_mk]) (st' := [.int (s_X6_within v 0 ((1 <<< ((I 42 6) &&& 31)) - 1) I)]) (σ' := (mj_KS N, I, mj_PP c d r)) 0 rfl trivial ?_
    refine R_br (q := ((s_X6_within v 0 ((1 <<< ((I 42 6) &&& 31)) - 1) I) : Int32) = 0) (t := 36) (f := 26) (rest := []) rfl (fun h2 => ?_) (fun h2 => ?_)
    · skip
      refine R_seg (φ := []) (pc' := 38) (L' := [.ref 42, .int v, .int s, .int k, mj_mk, mj_mk]) (st' := [.int (-2)]) (σ' := (mj_KS N, I, mj_PP c d r)) 1 rfl trivial ?_
      exact R_ri rfl rfl (mj_leaf (by simp only [s_X6_quickest, if_neg h1, if_pos h2, Bool.false_eq_true, ↓reduceIte, Nat.reduceAdd, Nat.reduceMul, mj_tn0, mj_tn1, mj_tn2, mj_tn3]) (by simp only [s_X6_quickest, if_neg h1, if_pos h2, Bool.false_eq_true, ↓reduceIte, Nat.reduceAdd, Nat.reduceMul, mj_tn0, mj_tn1, mj_tn2, mj_tn3]))
    · skip
      refine R_seg (φ := []) (pc' := 30) (L' := [.ref 42, .int v, .int s, .int k, mj_mk, mj_mk]) (st' := [.int 23, .int (-1), .int k]) (σ' := (mj_KS N, I, mj_PP c d r)) 3 rfl trivial ?_
      refine R_ce (idx := 76) (mid := 95) (kind := 1) (N := N) (M' := mj_m_X6_within) (As := [.int k, .int (-1), .int 23]) (rest := []) (I := I) (P := mj_PP c d r) (I' := I) (P' := mj_PP c d r) (v := some (.int (s_X6_within k (-1) 23 I))) rfl rfl rfl mj_mc95 mj_dc95 rfl rfl rfl rfl rfl rfl (x_X6_within l b base D z N k (-1) 23 I c d r) ?_
      refine R_seg (φ := []) (pc' := 33) (L' := [.ref 42, .int v, .int s, .int k, mj_mk, mj_mk]) (st' := [.int (s_X6_within k (-1) 23 I)]) (σ' := (mj_KS N, I, mj_PP c d r)) 0 rfl trivial ?_
      refine R_br (q := ((s_X6_within k (-1) 23 I) : Int32) = 0) (t := 36) (f := 39) (rest := []) rfl (fun h3 => ?_) (fun h3 => ?_)
      · skip
        refine R_seg (φ := []) (pc' := 38) (L' := [.ref 42, .int v, .int s, .int k, mj_mk, mj_mk]) (st' := [.int (-2)]) (σ' := (mj_KS N, I, mj_PP c d r)) 1 rfl trivial ?_
        exact R_ri rfl rfl (mj_leaf (by simp only [s_X6_quickest, if_neg h1, if_neg h2, if_pos h3, Bool.false_eq_true, ↓reduceIte, Nat.reduceAdd, Nat.reduceMul, mj_tn0, mj_tn1, mj_tn2, mj_tn3]) (by simp only [s_X6_quickest, if_neg h1, if_neg h2, if_pos h3, Bool.false_eq_true, ↓reduceIte, Nat.reduceAdd, Nat.reduceMul, mj_tn0, mj_tn1, mj_tn2, mj_tn3]))
      · skip
        refine R_seg (φ := []) (pc' := 40) (L' := [.ref 42, .int v, .int s, .int k, mj_mk, mj_mk]) (st' := [.int v]) (σ' := (mj_KS N, I, mj_PP c d r)) 1 rfl trivial ?_
        refine R_br (q := (v : Int32) = 0) (t := 43) (f := 55) (rest := []) rfl (fun h4 => ?_) (fun h4 => ?_)
        · skip
          refine R_seg (φ := []) (pc' := 45) (L' := [.ref 42, .int v, .int s, .int k, mj_mk, mj_mk]) (st' := [.int (-1), .int k]) (σ' := (mj_KS N, I, mj_PP c d r)) 2 rfl trivial ?_
          refine R_br (q := (k : Int32) = (-1)) (t := 48) (f := 52) (rest := []) rfl (fun h5 => ?_) (fun h5 => ?_)
          · skip
            refine R_seg (φ := []) (pc' := 54) (L' := [.ref 42, .int v, .int s, .int k, mj_mk, mj_mk]) (st' := [.int 0]) (σ' := (mj_KS N, I, mj_PP c d r)) 2 rfl trivial ?_
            exact R_ri rfl rfl (mj_leaf (by simp only [s_X6_quickest, if_neg h1, if_neg h2, if_neg h3, if_pos h4, if_pos h5, Bool.false_eq_true, ↓reduceIte, Nat.reduceAdd, Nat.reduceMul, mj_tn0, mj_tn1, mj_tn2, mj_tn3]) (by simp only [s_X6_quickest, if_neg h1, if_neg h2, if_neg h3, if_pos h4, if_pos h5, Bool.false_eq_true, ↓reduceIte, Nat.reduceAdd, Nat.reduceMul, mj_tn0, mj_tn1, mj_tn2, mj_tn3]))
          · skip
            refine R_seg (φ := []) (pc' := 54) (L' := [.ref 42, .int v, .int s, .int k, mj_mk, mj_mk]) (st' := [.int (-9)]) (σ' := (mj_KS N, I, mj_PP c d r)) 1 rfl trivial ?_
            exact R_ri rfl rfl (mj_leaf (by simp only [s_X6_quickest, if_neg h1, if_neg h2, if_neg h3, if_pos h4, if_neg h5, Bool.false_eq_true, ↓reduceIte, Nat.reduceAdd, Nat.reduceMul, mj_tn0, mj_tn1, mj_tn2, mj_tn3]) (by simp only [s_X6_quickest, if_neg h1, if_neg h2, if_neg h3, if_pos h4, if_neg h5, Bool.false_eq_true, ↓reduceIte, Nat.reduceAdd, Nat.reduceMul, mj_tn0, mj_tn1, mj_tn2, mj_tn3]))
        · skip
          refine R_seg (φ := []) (pc' := 56) (L' := [.ref 42, .int v, .int s, .int k, mj_mk, mj_mk]) (st' := [.ref 42]) (σ' := (mj_KS N, I, mj_PP c d r)) 1 rfl trivial ?_
          refine R_ce (idx := 187) (mid := 126) (kind := 0) (N := N) (M' := mj_m_X6_findToGo) (As := [.ref 42]) (rest := []) (I := I) (P := mj_PP c d r) (I' := (s_X6_findToGo m I)) (P' := mj_PP c d r) (v := none) rfl rfl rfl mj_mc126 mj_dc126 rfl rfl rfl rfl rfl rfl (x_X6_findToGo l b base D z N m  I c d r hm hF) ?_
          have q1 := hQ h1 h2
          generalize hg1 : (s_X6_findToGo m I) = g1 at q1 ⊢
          refine R_seg (φ := []) (pc' := 62) (L' := [.ref 42, .int v, .int s, .int k, mj_mk, mj_mk]) (st' := [.int s, .int v, .ref 42]) (σ' := (mj_KS N, g1, mj_PP c d r)) 3 rfl trivial ?_
          refine R_ce (idx := 190) (mid := 127) (kind := 0) (N := N) (M' := mj_m_X6_firstOf) (As := [.ref 42, .int v, .int s]) (rest := []) (I := g1) (P := mj_PP c d r) (I' := g1) (P' := mj_PP c d r) (v := some (.int (mj6_FO v s (g1)))) rfl rfl rfl mj_mc127 mj_dc127 rfl rfl rfl rfl rfl rfl (x_X6_firstOfI l b base D z N v s (g1) c d r (mj6_st h1 (mj6_S6 hS hm))) ?_
          refine R_seg (φ := []) (pc' := 69) (L' := [.ref 42, .int v, .int s, .int k, .int (mj6_FO v s (g1)), mj_mk]) (st' := [.int (-1), .int k]) (σ' := (mj_KS N, g1, mj_PP c d r)) 3 rfl trivial ?_
          refine R_br (q := (k : Int32) = (-1)) (t := 95) (f := 72) (rest := []) rfl (fun h6 => ?_) (fun h6 => ?_)
          · skip
            refine R_seg (φ := []) (pc' := 97) (L' := [.ref 42, .int v, .int s, .int k, .int (mj6_FO v s (g1)), mj_mk]) (st' := [.int (-1), .int k]) (σ' := (mj_KS N, g1, mj_PP c d r)) 2 rfl trivial ?_
            refine R_br (q := (k : Int32) = (-1)) (t := 100) (f := 124) (rest := []) rfl (fun h7 => ?_) (fun h7 => absurd (h6) h7)
            refine R_seg (φ := [mj_in (mj6_FO v s (g1)) 2058]) (pc' := 109) (L' := [.ref 42, .int v, .int s, .int k, .int (mj6_FO v s (g1)), mj_mk]) (st' := [.int (-9), .int ((g1) 57 (mj6_FO v s (g1)))]) (σ' := (mj_KS N, g1, mj_PP c d r)) 5 rfl ⟨q1.1, trivial⟩ ?_
            refine R_br (q := ((g1) 57 (mj6_FO v s (g1)) : Int32) = (-9)) (t := 124) (f := 112) (rest := []) rfl (fun h8 => ?_) (fun h8 => ?_)
            · skip
              refine R_seg (φ := []) (pc' := 126) (L' := [.ref 42, .int v, .int s, .int k, .int (mj6_FO v s (g1)), mj_mk]) (st' := [.int (-9)]) (σ' := (mj_KS N, g1, mj_PP c d r)) 1 rfl trivial ?_
              exact R_ri rfl rfl (mj_leaf (by simp only [s_X6_quickest, hg1, if_neg h1, if_neg h2, if_neg h3, if_neg h4, if_pos h6, if_pos h8, Bool.false_eq_true, ↓reduceIte, Nat.reduceAdd, Nat.reduceMul, mj_tn0, mj_tn1, mj_tn2, mj_tn3]) (by simp only [s_X6_quickest, hg1, if_neg h1, if_neg h2, if_neg h3, if_neg h4, if_pos h6, if_pos h8, Bool.false_eq_true, ↓reduceIte, Nat.reduceAdd, Nat.reduceMul, mj_tn0, mj_tn1, mj_tn2, mj_tn3]))
            · skip
              refine R_seg (φ := [mj_in (mj6_FO v s (g1)) 2058]) (pc' := 126) (L' := [.ref 42, .int v, .int s, .int k, .int (mj6_FO v s (g1)), mj_mk]) (st' := [.int (((g1) 57 (mj6_FO v s (g1))) + 1)]) (σ' := (mj_KS N, g1, mj_PP c d r)) 7 rfl ⟨q1.1, trivial⟩ ?_
              exact R_ri rfl rfl (mj_leaf (by simp only [s_X6_quickest, hg1, if_neg h1, if_neg h2, if_neg h3, if_neg h4, if_pos h6, if_neg h8, Bool.false_eq_true, ↓reduceIte, Nat.reduceAdd, Nat.reduceMul, mj_tn0, mj_tn1, mj_tn2, mj_tn3]) (by simp only [s_X6_quickest, hg1, if_neg h1, if_neg h2, if_neg h3, if_neg h4, if_pos h6, if_neg h8, Bool.false_eq_true, ↓reduceIte, Nat.reduceAdd, Nat.reduceMul, mj_tn0, mj_tn1, mj_tn2, mj_tn3]))
          · skip
            refine R_seg (φ := [mj_in (mj6_FO v s (g1)) 2058]) (pc' := 81) (L' := [.ref 42, .int v, .int s, .int k, .int (mj6_FO v s (g1)), mj_mk]) (st' := [.int (-9), .int ((g1) 57 (mj6_FO v s (g1)))]) (σ' := (mj_KS N, g1, mj_PP c d r)) 5 rfl ⟨q1.1, trivial⟩ ?_
            refine R_br (q := ((g1) 57 (mj6_FO v s (g1)) : Int32) = (-9)) (t := 95) (f := 84) (rest := []) rfl (fun h9 => ?_) (fun h9 => ?_)
            · skip
              refine R_seg (φ := []) (pc' := 97) (L' := [.ref 42, .int v, .int s, .int k, .int (mj6_FO v s (g1)), mj_mk]) (st' := [.int (-1), .int k]) (σ' := (mj_KS N, g1, mj_PP c d r)) 2 rfl trivial ?_
              refine R_br (q := (k : Int32) = (-1)) (t := 100) (f := 124) (rest := []) rfl (fun h10 => absurd h10 (h6)) (fun h10 => ?_)
              refine R_seg (φ := []) (pc' := 126) (L' := [.ref 42, .int v, .int s, .int k, .int (mj6_FO v s (g1)), mj_mk]) (st' := [.int (-9)]) (σ' := (mj_KS N, g1, mj_PP c d r)) 1 rfl trivial ?_
              exact R_ri rfl rfl (mj_leaf (by simp only [s_X6_quickest, hg1, if_neg h1, if_neg h2, if_neg h3, if_neg h4, if_neg h6, if_pos h9, Bool.false_eq_true, ↓reduceIte, Nat.reduceAdd, Nat.reduceMul, mj_tn0, mj_tn1, mj_tn2, mj_tn3]) (by simp only [s_X6_quickest, hg1, if_neg h1, if_neg h2, if_neg h3, if_neg h4, if_neg h6, if_pos h9, Bool.false_eq_true, ↓reduceIte, Nat.reduceAdd, Nat.reduceMul, mj_tn0, mj_tn1, mj_tn2, mj_tn3]))
            · skip
              refine R_seg (φ := [mj_in (mj6_FO v s (g1)) 2058]) (pc' := 92) (L' := [.ref 42, .int v, .int s, .int k, .int (mj6_FO v s (g1)), mj_mk]) (st' := [.int ((g1) 57 (mj6_FO v s (g1))), .int k]) (σ' := (mj_KS N, g1, mj_PP c d r)) 5 rfl ⟨q1.1, trivial⟩ ?_
              refine R_br (q := ((g1) 57 (mj6_FO v s (g1)) : Int32) < k) (t := 95) (f := 127) (rest := []) rfl (fun h11 => ?_) (fun h11 => ?_)
              · skip
                refine R_seg (φ := []) (pc' := 97) (L' := [.ref 42, .int v, .int s, .int k, .int (mj6_FO v s (g1)), mj_mk]) (st' := [.int (-1), .int k]) (σ' := (mj_KS N, g1, mj_PP c d r)) 2 rfl trivial ?_
                refine R_br (q := (k : Int32) = (-1)) (t := 100) (f := 124) (rest := []) rfl (fun h12 => absurd h12 (h6)) (fun h12 => ?_)
                refine R_seg (φ := []) (pc' := 126) (L' := [.ref 42, .int v, .int s, .int k, .int (mj6_FO v s (g1)), mj_mk]) (st' := [.int (-9)]) (σ' := (mj_KS N, g1, mj_PP c d r)) 1 rfl trivial ?_
                exact R_ri rfl rfl (mj_leaf (by simp only [s_X6_quickest, hg1, if_neg h1, if_neg h2, if_neg h3, if_neg h4, if_neg h6, if_neg h9, if_pos h11, Bool.false_eq_true, ↓reduceIte, Nat.reduceAdd, Nat.reduceMul, mj_tn0, mj_tn1, mj_tn2, mj_tn3]) (by simp only [s_X6_quickest, hg1, if_neg h1, if_neg h2, if_neg h3, if_neg h4, if_neg h6, if_neg h9, if_pos h11, Bool.false_eq_true, ↓reduceIte, Nat.reduceAdd, Nat.reduceMul, mj_tn0, mj_tn1, mj_tn2, mj_tn3]))
              · skip
                obtain ⟨w, hw, rfl⟩ := mj6_kw h3 h6
                · skip
                  refine R_seg (φ := []) (pc' := 130) (L' := [.ref 42, .int v, .int s, .int ((nI w)), .int (mj6_FO v s (g1)), .int 1]) (st' := []) (σ' := (mj_KS N, g1, mj_PP c d r)) 2 rfl trivial ?_
                  simp only [s_X6_quickest, hg1, mj_tnm (show w < 2147483648 by omega), if_neg h1, if_neg h2, if_neg h3, if_neg h4, if_neg h6, if_neg h9, if_neg h11, Bool.false_eq_true, ↓reduceIte, Nat.reduceAdd, Nat.reduceMul, mj_tn0, mj_tn1, mj_tn2, mj_tn3]
                  exact x_X6_qu l b base D z N v s w m c d r hm hw (w) 1 (mj6_FO v s (g1)) (g1) (by omega) (by omega) (by omega) q1.2.2 (mj6_W_0 q1 h11 hw)
