/-! the reference: a text read -/
def s_X6_digit (e : Int32) (f : Int32) (g : Int32) (I : mj_I) : Int32 × mj_I := if (I 42 11 : Int32) < e then (if ((s_X6_within (I 45 (I 42 11)) (48 + f) (48 + g) I) : Int32) = 0 then ((-9), I) else ((I 45 (((I 42 11) + 1) - 1)) - 48, (mj_upI I 42 11 ((I 42 11) + 1)))) else ((-9), I)
set_option maxHeartbeats 8000000 in
theorem x_X6_digit (l : Launch) (b base : Nat) (D : va_G) (z : mj_K × (Int32 → Int32)) (N : Nat) (e : Int32) (f : Int32) (g : Int32) (I : mj_I) (c d r : Nat) (hT : mj6_T e I) : mj_Rn l b base D z mj_m_X6_digit 0 [.ref 42, .int e, .int f, .int g] [] (mj_KS N, I, mj_PP c d r) (mj_E N (some (.int (s_X6_digit e f g I).1)) (s_X6_digit e f g I).2 (mj_PP c d r)) := by
  refine R_seg (φ := []) (pc' := 5) (L' := [.ref 42, .int e, .int f, .int g]) (st' := [.int e, .int (I 42 11)]) (σ' := (mj_KS N, I, mj_PP c d r)) 3 rfl trivial ?_
  refine R_br (q := (I 42 11 : Int32) < e) (t := 8) (f := 31) (rest := []) rfl (fun h1 => ?_) (fun h1 => ?_)
  · skip
    refine R_seg (φ := [mj_in (I 42 11) 240]) (pc' := 25) (L' := [.ref 42, .int e, .int f, .int g]) (st' := [.int (48 + g), .int (48 + f), .int (I 45 (I 42 11))]) (σ' := (mj_KS N, I, mj_PP c d r)) 11 rfl ⟨(mj6_Tin hT h1), trivial⟩ ?_
    refine R_ce (idx := 76) (mid := 95) (kind := 1) (N := N) (M' := mj_m_X6_within) (As := [.int (I 45 (I 42 11)), .int (48 + f), .int (48 + g)]) (rest := []) (I := I) (P := mj_PP c d r) (I' := I) (P' := mj_PP c d r) (v := some (.int (s_X6_within (I 45 (I 42 11)) (48 + f) (48 + g) I))) rfl rfl rfl mj_mc95 mj_dc95 rfl rfl rfl rfl rfl rfl (x_X6_within l b base D z N (I 45 (I 42 11)) (48 + f) (48 + g) I c d r) ?_
    refine R_seg (φ := []) (pc' := 28) (L' := [.ref 42, .int e, .int f, .int g]) (st' := [.int (s_X6_within (I 45 (I 42 11)) (48 + f) (48 + g) I)]) (σ' := (mj_KS N, I, mj_PP c d r)) 0 rfl trivial ?_
    refine R_br (q := ((s_X6_within (I 45 (I 42 11)) (48 + f) (48 + g) I) : Int32) = 0) (t := 31) (f := 34) (rest := []) rfl (fun h2 => ?_) (fun h2 => ?_)
    · skip
      refine R_seg (φ := []) (pc' := 33) (L' := [.ref 42, .int e, .int f, .int g]) (st' := [.int (-9)]) (σ' := (mj_KS N, I, mj_PP c d r)) 1 rfl trivial ?_
      exact R_ri rfl rfl (mj_leaf (by simp only [s_X6_digit, if_pos h1, if_pos h2, Bool.false_eq_true, ↓reduceIte, Nat.reduceAdd, Nat.reduceMul, mj_tn0, mj_tn1, mj_tn2, mj_tn3]) (by simp only [s_X6_digit, if_pos h1, if_pos h2, Bool.false_eq_true, ↓reduceIte, Nat.reduceAdd, Nat.reduceMul, mj_tn0, mj_tn1, mj_tn2, mj_tn3]))
    · skip
      refine R_seg (φ := [mj_in (((I 42 11) + 1) - 1) 240]) (pc' := 58) (L' := [.ref 42, .int e, .int f, .int g]) (st' := [.int ((I 45 (((I 42 11) + 1) - 1)) - 48)]) (σ' := (mj_KS N, (mj_upI I 42 11 ((I 42 11) + 1)), mj_PP c d r)) 15 rfl ⟨(mj6_Tin1 hT h1), trivial⟩ ?_
      exact R_ri rfl rfl (mj_leaf (by simp only [s_X6_digit, if_pos h1, if_neg h2, Bool.false_eq_true, ↓reduceIte, Nat.reduceAdd, Nat.reduceMul, mj_tn0, mj_tn1, mj_tn2, mj_tn3]) (by simp only [s_X6_digit, if_pos h1, if_neg h2, Bool.false_eq_true, ↓reduceIte, Nat.reduceAdd, Nat.reduceMul, mj_tn0, mj_tn1, mj_tn2, mj_tn3]))
  · skip
    refine R_seg (φ := []) (pc' := 33) (L' := [.ref 42, .int e, .int f, .int g]) (st' := [.int (-9)]) (σ' := (mj_KS N, I, mj_PP c d r)) 1 rfl trivial ?_
    exact R_ri rfl rfl (mj_leaf (by simp only [s_X6_digit, if_neg h1, Bool.false_eq_true, ↓reduceIte, Nat.reduceAdd, Nat.reduceMul, mj_tn0, mj_tn1, mj_tn2, mj_tn3]) (by simp only [s_X6_digit, if_neg h1, Bool.false_eq_true, ↓reduceIte, Nat.reduceAdd, Nat.reduceMul, mj_tn0, mj_tn1, mj_tn2, mj_tn3]))
def s_X6_isSign (e : Int32) (f : Int32) (I : mj_I) : Int32 × mj_I := if (I 42 11 : Int32) < e then (if (I 45 (I 42 11) : Int32) = f then (1, (mj_upI I 42 11 ((I 42 11) + 1))) else (0, I)) else (0, I)
set_option maxHeartbeats 8000000 in
theorem x_X6_isSign (l : Launch) (b base : Nat) (D : va_G) (z : mj_K × (Int32 → Int32)) (N : Nat) (e : Int32) (f : Int32) (I : mj_I) (c d r : Nat) (hT : mj6_T e I) : mj_Rn l b base D z mj_m_X6_isSign 0 [.ref 42, .int e, .int f] [] (mj_KS N, I, mj_PP c d r) (mj_E N (some (.int (s_X6_isSign e f I).1)) (s_X6_isSign e f I).2 (mj_PP c d r)) := by
  refine R_seg (φ := []) (pc' := 5) (L' := [.ref 42, .int e, .int f]) (st' := [.int e, .int (I 42 11)]) (σ' := (mj_KS N, I, mj_PP c d r)) 3 rfl trivial ?_
  refine R_br (q := (I 42 11 : Int32) < e) (t := 8) (f := 21) (rest := []) rfl (fun h1 => ?_) (fun h1 => ?_)
  · skip
    refine R_seg (φ := [mj_in (I 42 11) 240]) (pc' := 18) (L' := [.ref 42, .int e, .int f]) (st' := [.int f, .int (I 45 (I 42 11))]) (σ' := (mj_KS N, I, mj_PP c d r)) 6 rfl ⟨(mj6_Tin hT h1), trivial⟩ ?_
    refine R_br (q := (I 45 (I 42 11) : Int32) = f) (t := 23) (f := 21) (rest := []) rfl (fun h2 => ?_) (fun h2 => ?_)
    · skip
      refine R_seg (φ := []) (pc' := 34) (L' := [.ref 42, .int e, .int f]) (st' := [.int 1]) (σ' := (mj_KS N, (mj_upI I 42 11 ((I 42 11) + 1)), mj_PP c d r)) 7 rfl trivial ?_
      exact R_rb rfl rfl (Or.inr rfl) (mj_leaf (by simp only [s_X6_isSign, if_pos h1, if_pos h2, Bool.false_eq_true, ↓reduceIte, Nat.reduceAdd, Nat.reduceMul, mj_tn0, mj_tn1, mj_tn2, mj_tn3]) (by simp only [s_X6_isSign, if_pos h1, if_pos h2, Bool.false_eq_true, ↓reduceIte, Nat.reduceAdd, Nat.reduceMul, mj_tn0, mj_tn1, mj_tn2, mj_tn3]))
    · skip
      refine R_seg (φ := []) (pc' := 22) (L' := [.ref 42, .int e, .int f]) (st' := [.int 0]) (σ' := (mj_KS N, I, mj_PP c d r)) 1 rfl trivial ?_
      exact R_rb rfl rfl (Or.inl rfl) (mj_leaf (by simp only [s_X6_isSign, if_pos h1, if_neg h2, Bool.false_eq_true, ↓reduceIte, Nat.reduceAdd, Nat.reduceMul, mj_tn0, mj_tn1, mj_tn2, mj_tn3]) (by simp only [s_X6_isSign, if_pos h1, if_neg h2, Bool.false_eq_true, ↓reduceIte, Nat.reduceAdd, Nat.reduceMul, mj_tn0, mj_tn1, mj_tn2, mj_tn3]))
  · skip
    refine R_seg (φ := []) (pc' := 22) (L' := [.ref 42, .int e, .int f]) (st' := [.int 0]) (σ' := (mj_KS N, I, mj_PP c d r)) 1 rfl trivial ?_
    exact R_rb rfl rfl (Or.inl rfl) (mj_leaf (by simp only [s_X6_isSign, if_neg h1, Bool.false_eq_true, ↓reduceIte, Nat.reduceAdd, Nat.reduceMul, mj_tn0, mj_tn1, mj_tn2, mj_tn3]) (by simp only [s_X6_isSign, if_neg h1, Bool.false_eq_true, ↓reduceIte, Nat.reduceAdd, Nat.reduceMul, mj_tn0, mj_tn1, mj_tn2, mj_tn3]))
theorem mj6_dg_ne (e f g : Int32) (I : mj_I) (x : Nat) (h : x ≠ 42) : (s_X6_digit e f g I).2 x = I x := by
  unfold s_X6_digit
  repeat' split
  all_goals first
    | rfl
    | exact mj_upI_ne h
theorem mj6_dg_42 (e f g : Int32) (I : mj_I) (y : Int32) (h : y ≠ 11) : (s_X6_digit e f g I).2 42 y = I 42 y := by
  unfold s_X6_digit
  repeat' split
  all_goals first
    | rfl
    | (show mj_upI I 42 11 _ 42 y = I 42 y; rw [mj_upI_eq, if_neg h])
theorem mj6_dg_T {e f g : Int32} {I : mj_I} (h : mj6_T e I) : mj6_T e (s_X6_digit e f g I).2 := by
  unfold s_X6_digit
  repeat' split
  all_goals first
    | exact h
    | exact mj6_T1 h (by assumption)
theorem mj6_sg_ne (e f : Int32) (I : mj_I) (x : Nat) (h : x ≠ 42) : (s_X6_isSign e f I).2 x = I x := by
  unfold s_X6_isSign
  repeat' split
  all_goals first
    | rfl
    | exact mj_upI_ne h
theorem mj6_sg_42 (e f : Int32) (I : mj_I) (y : Int32) (h : y ≠ 11) : (s_X6_isSign e f I).2 42 y = I 42 y := by
  unfold s_X6_isSign
  repeat' split
  all_goals first
    | rfl
    | (show mj_upI I 42 11 _ 42 y = I 42 y; rw [mj_upI_eq, if_neg h])
theorem mj6_sg_T {e f : Int32} {I : mj_I} (h : mj6_T e I) : mj6_T e (s_X6_isSign e f I).2 := by
  unfold s_X6_isSign
  repeat' split
  all_goals first
    | exact h
    | exact mj6_T1 h (by assumption)
/-- a digit that is there -/
theorem mj6_dg_v {e f g : Int32} {I : mj_I} (h : ¬ (s_X6_digit e f g I).1 = -9) (hf : 0 ≤ f.toInt ∧ f.toInt ≤ 9) (hg : -9 ≤ g.toInt ∧ g.toInt ≤ 9) : f.toInt ≤ (s_X6_digit e f g I).1.toInt ∧ (s_X6_digit e f g I).1.toInt ≤ g.toInt := by
  revert h
  unfold s_X6_digit
  by_cases h1 : I 42 11 < e
  · rw [if_pos h1]
    by_cases h2 : s_X6_within (I 45 (I 42 11)) (48 + f) (48 + g) I = 0
    · rw [if_pos h2]; intro h; exact absurd rfl h
    · rw [if_neg h2]
      intro _
      have a := mj6_wi h2
      have e48 : (48 : Int32).toInt = 48 := by decide
      rw [mj_iadd (by omega) (by omega), mj_iadd (by omega) (by omega), e48] at a
      show f.toInt ≤ (I 45 (I 42 11 + 1 - 1) - 48).toInt ∧ (I 45 (I 42 11 + 1 - 1) - 48).toInt ≤ g.toInt
      rw [mj6_at1, mj_isub (by omega) (by omega), e48]
      omega
  · rw [if_neg h1]; intro h; exact absurd rfl h
theorem mj6_S1 {S : Int32} (h : 2 ≤ S.toInt ∧ S.toInt ≤ 6) : (S - 1).toInt = S.toInt - 1 := by
  have e1 : (1 : Int32).toInt = 1 := by decide
  rw [mj_isub (by omega) (by omega), e1]
theorem mj6_dgS {e S : Int32} {I : mj_I} (hS : 2 ≤ S.toInt ∧ S.toInt ≤ 6) (h : ¬ (s_X6_digit e 0 (S - 1) I).1 = -9) : mj_in (s_X6_digit e 0 (S - 1) I).1 6 := by
  have e1 := mj6_S1 hS
  have a := mj6_dg_v h (by decide) (by rw [e1]; omega)
  rw [e1, Int32.toInt_zero] at a
  exact mj_mkin ⟨by omega, by omega⟩
def mj6_TS (e : Int32) (I : mj_I) : Prop := mj6_T e I ∧ (2 ≤ (I 42 12).toInt ∧ (I 42 12).toInt ≤ 6)
theorem mj6_dg_TS {e f g : Int32} {I : mj_I} (h : mj6_TS e I) : mj6_TS e (s_X6_digit e f g I).2 := ⟨mj6_dg_T h.1, by rw [mj6_dg_42 _ _ _ _ _ (by decide)]; exact h.2⟩
theorem mj6_sg_TS {e f : Int32} {I : mj_I} (h : mj6_TS e I) : mj6_TS e (s_X6_isSign e f I).2 := ⟨mj6_sg_T h.1, by rw [mj6_sg_42 _ _ _ _ (by decide)]; exact h.2⟩
def s_X6_readCorner (e : Int32) (I : mj_I) : Int32 × mj_I := if (((s_X6_digit e 0 ((I 42 12) - 1) I).1) : Int32) = (-9) then (0, ((s_X6_digit e 0 ((I 42 12) - 1) I).2)) else (if ((((s_X6_digit e 0 ((I 42 12) - 1) I).2)) 42 11 : Int32) < e then (if (((((s_X6_digit e 0 ((I 42 12) - 1) I).2)) 45 ((((s_X6_digit e 0 ((I 42 12) - 1) I).2)) 42 11)) - 48 : Int32) = ((s_X6_digit e 0 ((I 42 12) - 1) I).1) then (0, ((s_X6_digit e 0 ((I 42 12) - 1) I).2)) else (if (((s_X6_digit e 0 (((((s_X6_digit e 0 ((I 42 12) - 1) I).2)) 42 12) - 1) (((s_X6_digit e 0 ((I 42 12) - 1) I).2))).1) : Int32) = (-9) then (0, ((s_X6_digit e 0 (((((s_X6_digit e 0 ((I 42 12) - 1) I).2)) 42 12) - 1) (((s_X6_digit e 0 ((I 42 12) - 1) I).2))).2)) else (1, (mj_upI (mj_upI (((s_X6_digit e 0 (((((s_X6_digit e 0 ((I 42 12) - 1) I).2)) 42 12) - 1) (((s_X6_digit e 0 ((I 42 12) - 1) I).2))).2)) 51 (((s_X6_digit e 0 ((I 42 12) - 1) I).1)) (((((s_X6_digit e 0 (((((s_X6_digit e 0 ((I 42 12) - 1) I).2)) 42 12) - 1) (((s_X6_digit e 0 ((I 42 12) - 1) I).2))).2)) 51 (((s_X6_digit e 0 ((I 42 12) - 1) I).1))) ||| (1 <<< ((((s_X6_digit e 0 (((((s_X6_digit e 0 ((I 42 12) - 1) I).2)) 42 12) - 1) (((s_X6_digit e 0 ((I 42 12) - 1) I).2))).1)) &&& 31)))) 51 (((s_X6_digit e 0 (((((s_X6_digit e 0 ((I 42 12) - 1) I).2)) 42 12) - 1) (((s_X6_digit e 0 ((I 42 12) - 1) I).2))).1)) (((mj_upI (((s_X6_digit e 0 (((((s_X6_digit e 0 ((I 42 12) - 1) I).2)) 42 12) - 1) (((s_X6_digit e 0 ((I 42 12) - 1) I).2))).2)) 51 (((s_X6_digit e 0 ((I 42 12) - 1) I).1)) (((((s_X6_digit e 0 (((((s_X6_digit e 0 ((I 42 12) - 1) I).2)) 42 12) - 1) (((s_X6_digit e 0 ((I 42 12) - 1) I).2))).2)) 51 (((s_X6_digit e 0 ((I 42 12) - 1) I).1))) ||| (1 <<< ((((s_X6_digit e 0 (((((s_X6_digit e 0 ((I 42 12) - 1) I).2)) 42 12) - 1) (((s_X6_digit e 0 ((I 42 12) - 1) I).2))).1)) &&& 31)))) 51 (((s_X6_digit e 0 (((((s_X6_digit e 0 ((I 42 12) - 1) I).2)) 42 12) - 1) (((s_X6_digit e 0 ((I 42 12) - 1) I).2))).1))) ||| (1 <<< ((((s_X6_digit e 0 ((I 42 12) - 1) I).1)) &&& 31))))))) else (if (((s_X6_digit e 0 (((((s_X6_digit e 0 ((I 42 12) - 1) I).2)) 42 12) - 1) (((s_X6_digit e 0 ((I 42 12) - 1) I).2))).1) : Int32) = (-9) then (0, ((s_X6_digit e 0 (((((s_X6_digit e 0 ((I 42 12) - 1) I).2)) 42 12) - 1) (((s_X6_digit e 0 ((I 42 12) - 1) I).2))).2)) else (1, (mj_upI (mj_upI (((s_X6_digit e 0 (((((s_X6_digit e 0 ((I 42 12) - 1) I).2)) 42 12) - 1) (((s_X6_digit e 0 ((I 42 12) - 1) I).2))).2)) 51 (((s_X6_digit e 0 ((I 42 12) - 1) I).1)) (((((s_X6_digit e 0 (((((s_X6_digit e 0 ((I 42 12) - 1) I).2)) 42 12) - 1) (((s_X6_digit e 0 ((I 42 12) - 1) I).2))).2)) 51 (((s_X6_digit e 0 ((I 42 12) - 1) I).1))) ||| (1 <<< ((((s_X6_digit e 0 (((((s_X6_digit e 0 ((I 42 12) - 1) I).2)) 42 12) - 1) (((s_X6_digit e 0 ((I 42 12) - 1) I).2))).1)) &&& 31)))) 51 (((s_X6_digit e 0 (((((s_X6_digit e 0 ((I 42 12) - 1) I).2)) 42 12) - 1) (((s_X6_digit e 0 ((I 42 12) - 1) I).2))).1)) (((mj_upI (((s_X6_digit e 0 (((((s_X6_digit e 0 ((I 42 12) - 1) I).2)) 42 12) - 1) (((s_X6_digit e 0 ((I 42 12) - 1) I).2))).2)) 51 (((s_X6_digit e 0 ((I 42 12) - 1) I).1)) (((((s_X6_digit e 0 (((((s_X6_digit e 0 ((I 42 12) - 1) I).2)) 42 12) - 1) (((s_X6_digit e 0 ((I 42 12) - 1) I).2))).2)) 51 (((s_X6_digit e 0 ((I 42 12) - 1) I).1))) ||| (1 <<< ((((s_X6_digit e 0 (((((s_X6_digit e 0 ((I 42 12) - 1) I).2)) 42 12) - 1) (((s_X6_digit e 0 ((I 42 12) - 1) I).2))).1)) &&& 31)))) 51 (((s_X6_digit e 0 (((((s_X6_digit e 0 ((I 42 12) - 1) I).2)) 42 12) - 1) (((s_X6_digit e 0 ((I 42 12) - 1) I).2))).1))) ||| (1 <<< ((((s_X6_digit e 0 ((I 42 12) - 1) I).1)) &&& 31)))))))
set_option maxHeartbeats 8000000 in
theorem x_X6_readCorner (l : Launch) (b base : Nat) (D : va_G) (z : mj_K × (Int32 → Int32)) (N : Nat) (e : Int32) (I : mj_I) (c d r : Nat) (hT : mj6_TS e I) : mj_Rn l b base D z mj_m_X6_readCorner 0 [.ref 42, .int e, mj_mk, mj_mk] [] (mj_KS N, I, mj_PP c d r) (mj_E N (some (.int (s_X6_readCorner e I).1)) (s_X6_readCorner e I).2 (mj_PP c d r)) := by
  refine R_seg (φ := []) (pc' := 9) (L' := [.ref 42, .int e, mj_mk, mj_mk]) (st' := [.int ((I 42 12) - 1), .int 0, .int e, .ref 42]) (σ' := (mj_KS N, I, mj_PP c d r)) 7 rfl trivial ?_
  refine R_ce (idx := 127) (mid := 102) (kind := 0) (N := N) (M' := mj_m_X6_digit) (As := [.ref 42, .int e, .int 0, .int ((I 42 12) - 1)]) (rest := []) (I := I) (P := mj_PP c d r) (I' := (s_X6_digit e 0 ((I 42 12) - 1) I).2) (P' := mj_PP c d r) (v := some (.int ((s_X6_digit e 0 ((I 42 12) - 1) I).1))) rfl rfl rfl mj_mc102 mj_dc102 rfl rfl rfl rfl rfl rfl (x_X6_digit l b base D z N e 0 ((I 42 12) - 1) I c d r (hT.1)) ?_
  have t1 : mj6_TS e (s_X6_digit e 0 ((I 42 12) - 1) I).2 := mj6_dg_TS hT
  have v1 : ¬ (s_X6_digit e 0 ((I 42 12) - 1) I).1 = -9 → mj_in (s_X6_digit e 0 ((I 42 12) - 1) I).1 6 := mj6_dgS hT.2
  have s1 : (s_X6_digit e 0 ((I 42 12) - 1) I).2 42 12 = I 42 12 := mj6_dg_42 _ _ _ _ _ (by decide)
  generalize hg1 : (s_X6_digit e 0 ((I 42 12) - 1) I) = g1 at t1 v1 s1 ⊢
  refine R_seg (φ := []) (pc' := 16) (L' := [.ref 42, .int e, .int (g1.1), mj_mk]) (st' := [.int (-9), .int (g1.1)]) (σ' := (mj_KS N, g1.2, mj_PP c d r)) 3 rfl trivial ?_
  refine R_br (q := (g1.1 : Int32) = (-9)) (t := 43) (f := 19) (rest := []) rfl (fun h1 => ?_) (fun h1 => ?_)
  · skip
    refine R_seg (φ := []) (pc' := 44) (L' := [.ref 42, .int e, .int (g1.1), mj_mk]) (st' := [.int 0]) (σ' := (mj_KS N, g1.2, mj_PP c d r)) 1 rfl trivial ?_
    exact R_rb rfl rfl (Or.inl rfl) (mj_leaf (by simp only [s_X6_readCorner, hg1, if_pos h1, Bool.false_eq_true, ↓reduceIte, Nat.reduceAdd, Nat.reduceMul, mj_tn0, mj_tn1, mj_tn2, mj_tn3]) (by simp only [s_X6_readCorner, hg1, if_pos h1, Bool.false_eq_true, ↓reduceIte, Nat.reduceAdd, Nat.reduceMul, mj_tn0, mj_tn1, mj_tn2, mj_tn3]))
  · skip
    refine R_seg (φ := []) (pc' := 24) (L' := [.ref 42, .int e, .int (g1.1), mj_mk]) (st' := [.int e, .int ((g1.2) 42 11)]) (σ' := (mj_KS N, g1.2, mj_PP c d r)) 3 rfl trivial ?_
    refine R_br (q := ((g1.2) 42 11 : Int32) < e) (t := 27) (f := 45) (rest := []) rfl (fun h2 => ?_) (fun h2 => ?_)
    · skip
      refine R_seg (φ := [mj_in ((g1.2) 42 11) 240]) (pc' := 40) (L' := [.ref 42, .int e, .int (g1.1), mj_mk]) (st' := [.int (g1.1), .int (((g1.2) 45 ((g1.2) 42 11)) - 48)]) (σ' := (mj_KS N, g1.2, mj_PP c d r)) 8 rfl ⟨(mj6_Tin t1.1 (by assumption)), trivial⟩ ?_
      refine R_br (q := (((g1.2) 45 ((g1.2) 42 11)) - 48 : Int32) = g1.1) (t := 43) (f := 45) (rest := []) rfl (fun h3 => ?_) (fun h3 => ?_)
      · skip
        refine R_seg (φ := []) (pc' := 44) (L' := [.ref 42, .int e, .int (g1.1), mj_mk]) (st' := [.int 0]) (σ' := (mj_KS N, g1.2, mj_PP c d r)) 1 rfl trivial ?_
        exact R_rb rfl rfl (Or.inl rfl) (mj_leaf (by simp only [s_X6_readCorner, hg1, if_neg h1, if_pos h2, if_pos h3, Bool.false_eq_true, ↓reduceIte, Nat.reduceAdd, Nat.reduceMul, mj_tn0, mj_tn1, mj_tn2, mj_tn3]) (by simp only [s_X6_readCorner, hg1, if_neg h1, if_pos h2, if_pos h3, Bool.false_eq_true, ↓reduceIte, Nat.reduceAdd, Nat.reduceMul, mj_tn0, mj_tn1, mj_tn2, mj_tn3]))
      · skip
        refine R_seg (φ := []) (pc' := 54) (L' := [.ref 42, .int e, .int (g1.1), mj_mk]) (st' := [.int (((g1.2) 42 12) - 1), .int 0, .int e, .ref 42]) (σ' := (mj_KS N, g1.2, mj_PP c d r)) 7 rfl trivial ?_
        refine R_ce (idx := 127) (mid := 102) (kind := 0) (N := N) (M' := mj_m_X6_digit) (As := [.ref 42, .int e, .int 0, .int (((g1.2) 42 12) - 1)]) (rest := []) (I := g1.2) (P := mj_PP c d r) (I' := (s_X6_digit e 0 (((g1.2) 42 12) - 1) (g1.2)).2) (P' := mj_PP c d r) (v := some (.int ((s_X6_digit e 0 (((g1.2) 42 12) - 1) (g1.2)).1))) rfl rfl rfl mj_mc102 mj_dc102 rfl rfl rfl rfl rfl rfl (x_X6_digit l b base D z N e 0 (((g1.2) 42 12) - 1) (g1.2) c d r (t1.1)) ?_
        have t2 : mj6_TS e (s_X6_digit e 0 (((g1.2) 42 12) - 1) (g1.2)).2 := mj6_dg_TS t1
        have v2 : ¬ (s_X6_digit e 0 (((g1.2) 42 12) - 1) (g1.2)).1 = -9 → mj_in (s_X6_digit e 0 (((g1.2) 42 12) - 1) (g1.2)).1 6 := mj6_dgS t1.2
        generalize hg2 : (s_X6_digit e 0 (((g1.2) 42 12) - 1) (g1.2)) = g2 at t2 v2 ⊢
        refine R_seg (φ := []) (pc' := 61) (L' := [.ref 42, .int e, .int (g1.1), .int (g2.1)]) (st' := [.int (-9), .int (g2.1)]) (σ' := (mj_KS N, g2.2, mj_PP c d r)) 3 rfl trivial ?_
        refine R_br (q := (g2.1 : Int32) = (-9)) (t := 64) (f := 66) (rest := []) rfl (fun h4 => ?_) (fun h4 => ?_)
        · skip
          refine R_seg (φ := []) (pc' := 65) (L' := [.ref 42, .int e, .int (g1.1), .int (g2.1)]) (st' := [.int 0]) (σ' := (mj_KS N, g2.2, mj_PP c d r)) 1 rfl trivial ?_
          exact R_rb rfl rfl (Or.inl rfl) (mj_leaf (by simp only [s_X6_readCorner, hg1, hg2, if_neg h1, if_pos h2, if_neg h3, if_pos h4, Bool.false_eq_true, ↓reduceIte, Nat.reduceAdd, Nat.reduceMul, mj_tn0, mj_tn1, mj_tn2, mj_tn3]) (by simp only [s_X6_readCorner, hg1, hg2, if_neg h1, if_pos h2, if_neg h3, if_pos h4, Bool.false_eq_true, ↓reduceIte, Nat.reduceAdd, Nat.reduceMul, mj_tn0, mj_tn1, mj_tn2, mj_tn3]))
        · skip
          refine R_seg (φ := [mj_in (g1.1) 6, mj_in (g1.1) 6, mj_in (g2.1) 6, mj_in (g2.1) 6]) (pc' := 91) (L' := [.ref 42, .int e, .int (g1.1), .int (g2.1)]) (st' := [.int 1]) (σ' := (mj_KS N, (mj_upI (mj_upI (g2.2) 51 (g1.1) (((g2.2) 51 (g1.1)) ||| (1 <<< ((g2.1) &&& 31)))) 51 (g2.1) (((mj_upI (g2.2) 51 (g1.1) (((g2.2) 51 (g1.1)) ||| (1 <<< ((g2.1) &&& 31)))) 51 (g2.1)) ||| (1 <<< ((g1.1) &&& 31)))), mj_PP c d r)) 21 rfl ⟨(v1 (by assumption)), (v1 (by assumption)), (v2 (by assumption)), (v2 (by assumption)), trivial⟩ ?_
          exact R_rb rfl rfl (Or.inr rfl) (mj_leaf (by simp only [s_X6_readCorner, hg1, hg2, if_neg h1, if_pos h2, if_neg h3, if_neg h4, Bool.false_eq_true, ↓reduceIte, Nat.reduceAdd, Nat.reduceMul, mj_tn0, mj_tn1, mj_tn2, mj_tn3]) (by simp only [s_X6_readCorner, hg1, hg2, if_neg h1, if_pos h2, if_neg h3, if_neg h4, Bool.false_eq_true, ↓reduceIte, Nat.reduceAdd, Nat.reduceMul, mj_tn0, mj_tn1, mj_tn2, mj_tn3]))
    · skip
      refine R_seg (φ := []) (pc' := 54) (L' := [.ref 42, .int e, .int (g1.1), mj_mk]) (st' := [.int (((g1.2) 42 12) - 1), .int 0, .int e, .ref 42]) (σ' := (mj_KS N, g1.2, mj_PP c d r)) 7 rfl trivial ?_
      refine R_ce (idx := 127) (mid := 102) (kind := 0) (N := N) (M' := mj_m_X6_digit) (As := [.ref 42, .int e, .int 0, .int (((g1.2) 42 12) - 1)]) (rest := []) (I := g1.2) (P := mj_PP c d r) (I' := (s_X6_digit e 0 (((g1.2) 42 12) - 1) (g1.2)).2) (P' := mj_PP c d r) (v := some (.int ((s_X6_digit e 0 (((g1.2) 42 12) - 1) (g1.2)).1))) rfl rfl rfl mj_mc102 mj_dc102 rfl rfl rfl rfl rfl rfl (x_X6_digit l b base D z N e 0 (((g1.2) 42 12) - 1) (g1.2) c d r (t1.1)) ?_
      have t2 : mj6_TS e (s_X6_digit e 0 (((g1.2) 42 12) - 1) (g1.2)).2 := mj6_dg_TS t1
      have v2 : ¬ (s_X6_digit e 0 (((g1.2) 42 12) - 1) (g1.2)).1 = -9 → mj_in (s_X6_digit e 0 (((g1.2) 42 12) - 1) (g1.2)).1 6 := mj6_dgS t1.2
      generalize hg2 : (s_X6_digit e 0 (((g1.2) 42 12) - 1) (g1.2)) = g2 at t2 v2 ⊢
      refine R_seg (φ := []) (pc' := 61) (L' := [.ref 42, .int e, .int (g1.1), .int (g2.1)]) (st' := [.int (-9), .int (g2.1)]) (σ' := (mj_KS N, g2.2, mj_PP c d r)) 3 rfl trivial ?_
      refine R_br (q := (g2.1 : Int32) = (-9)) (t := 64) (f := 66) (rest := []) rfl (fun h5 => ?_) (fun h5 => ?_)
      · skip
        refine R_seg (φ := []) (pc' := 65) (L' := [.ref 42, .int e, .int (g1.1), .int (g2.1)]) (st' := [.int 0]) (σ' := (mj_KS N, g2.2, mj_PP c d r)) 1 rfl trivial ?_
        exact R_rb rfl rfl (Or.inl rfl) (mj_leaf (by simp only [s_X6_readCorner, hg1, hg2, if_neg h1, if_neg h2, if_pos h5, Bool.false_eq_true, ↓reduceIte, Nat.reduceAdd, Nat.reduceMul, mj_tn0, mj_tn1, mj_tn2, mj_tn3]) (by simp only [s_X6_readCorner, hg1, hg2, if_neg h1, if_neg h2, if_pos h5, Bool.false_eq_true, ↓reduceIte, Nat.reduceAdd, Nat.reduceMul, mj_tn0, mj_tn1, mj_tn2, mj_tn3]))
      · skip
        refine R_seg (φ := [mj_in (g1.1) 6, mj_in (g1.1) 6, mj_in (g2.1) 6, mj_in (g2.1) 6]) (pc' := 91) (L' := [.ref 42, .int e, .int (g1.1), .int (g2.1)]) (st' := [.int 1]) (σ' := (mj_KS N, (mj_upI (mj_upI (g2.2) 51 (g1.1) (((g2.2) 51 (g1.1)) ||| (1 <<< ((g2.1) &&& 31)))) 51 (g2.1) (((mj_upI (g2.2) 51 (g1.1) (((g2.2) 51 (g1.1)) ||| (1 <<< ((g2.1) &&& 31)))) 51 (g2.1)) ||| (1 <<< ((g1.1) &&& 31)))), mj_PP c d r)) 21 rfl ⟨(v1 (by assumption)), (v1 (by assumption)), (v2 (by assumption)), (v2 (by assumption)), trivial⟩ ?_
        exact R_rb rfl rfl (Or.inr rfl) (mj_leaf (by simp only [s_X6_readCorner, hg1, hg2, if_neg h1, if_neg h2, if_neg h5, Bool.false_eq_true, ↓reduceIte, Nat.reduceAdd, Nat.reduceMul, mj_tn0, mj_tn1, mj_tn2, mj_tn3]) (by simp only [s_X6_readCorner, hg1, hg2, if_neg h1, if_neg h2, if_neg h5, Bool.false_eq_true, ↓reduceIte, Nat.reduceAdd, Nat.reduceMul, mj_tn0, mj_tn1, mj_tn2, mj_tn3]))
theorem mj6_T_up {e : Int32} {I : mj_I} {x : Nat} {i v : Int32} (h : mj6_T e I) (hx : 42 ≠ x) : mj6_T e (mj_upI I x i v) := by
  obtain ⟨a, b⟩ := h
  exact ⟨by rw [mj_upI_ne hx]; exact a, b⟩
theorem mj6_TS_up {e : Int32} {I : mj_I} {x : Nat} {i v : Int32} (h : mj6_TS e I) (hx : 42 ≠ x) : mj6_TS e (mj_upI I x i v) := ⟨mj6_T_up h.1 hx, by rw [mj_upI_ne hx]; exact h.2⟩
theorem mj6_T_13 {e v : Int32} {I : mj_I} (h : mj6_T e I) : mj6_T e (mj_upI I 42 13 v) := by
  obtain ⟨a, b⟩ := h
  exact ⟨by rw [mj_upI_eq, if_neg (by decide)]; exact a, b⟩
def s_X6_rw (e : Int32) (q : Int32) (f : Int32) : Nat → Nat → mj_I → Int32 × mj_I
  | 0, j, I => (1, (mj_upI I 42 13 ((I 42 13) + 1)))
  | k + 1, j, I => if ((mj_upI (((s_X6_digit e 0 3 I).2)) 53 ((3 * q) + (nI j)) (((s_X6_digit e 0 3 I).1))) 53 ((3 * q) + (nI j)) : Int32) = (-9) then (0, (mj_upI (((s_X6_digit e 0 3 I).2)) 53 ((3 * q) + (nI j)) (((s_X6_digit e 0 3 I).1)))) else (s_X6_rw e q f k (j + 1)  (mj_upI (((s_X6_digit e 0 3 I).2)) 53 ((3 * q) + (nI j)) (((s_X6_digit e 0 3 I).1))))
set_option maxHeartbeats 8000000 in
theorem x_X6_rw (l : Launch) (b base : Nat) (D : va_G) (z : mj_K × (Int32 → Int32)) (N : Nat) (e : Int32) (q : Int32) (f : Int32) (c d r : Nat) (hq : mj_in q 3) : ∀ (k j : Nat) (I : mj_I), k = 3 - j → 0 ≤ j → j ≤ 3 + 1 → (mj6_T e I) → mj_Rn l b base D z mj_m_X6_readPlant 91 [.ref 42, .int e, .int q, .int f, .int (nI j)] [] (mj_KS N, I, mj_PP c d r) (mj_E N (some (.int (s_X6_rw e q f k j  I).1)) (s_X6_rw e q f k j  I).2 (mj_PP c d r)) := by
  intro k
  induction k with
  | zero =>
    intro j I hk hlo hj hT
    refine R_seg (φ := []) (pc' := 94) (L' := [.ref 42, .int e, .int q, .int f, .int (nI j)]) (st' := [.int 3, .int (nI j)]) (σ' := (mj_KS N, I, mj_PP c d r)) 2 rfl trivial ?_
    refine R_br (q := (nI j : Int32) < 3) (t := 97) (f := 139) (rest := []) rfl (fun h1 => absurd h1 (show ¬ nI j < nI 3 from nI_nlt (by omega) (by omega))) (fun h1 => ?_)
    refine R_seg (φ := []) (pc' := 150) (L' := [.ref 42, .int e, .int q, .int f, .int (nI j)]) (st' := [.int 1]) (σ' := (mj_KS N, (mj_upI I 42 13 ((I 42 13) + 1)), mj_PP c d r)) 7 rfl trivial ?_
    exact R_rb rfl rfl (Or.inr rfl) (mj_leaf (by simp only [s_X6_rw, Bool.false_eq_true, ↓reduceIte, Nat.reduceAdd, Nat.reduceMul, mj_tn0, mj_tn1, mj_tn2, mj_tn3]) (by simp only [s_X6_rw, Bool.false_eq_true, ↓reduceIte, Nat.reduceAdd, Nat.reduceMul, mj_tn0, mj_tn1, mj_tn2, mj_tn3]))
  | succ k ih =>
    intro j I hk hlo hj hT
    have hjm : j < 3 := by omega
    have hin := mj6_w3 hq (mj_in_nI (n := 3) hjm (by decide))
    refine R_seg (φ := []) (pc' := 94) (L' := [.ref 42, .int e, .int q, .int f, .int (nI j)]) (st' := [.int 3, .int (nI j)]) (σ' := (mj_KS N, I, mj_PP c d r)) 2 rfl trivial ?_
    refine R_br (q := (nI j : Int32) < 3) (t := 97) (f := 139) (rest := []) rfl (fun h1 => ?_) (fun h1 => absurd (show nI j < nI 3 from nI_lt hjm (by omega)) h1)
    refine R_seg (φ := []) (pc' := 111) (L' := [.ref 42, .int e, .int q, .int f, .int (nI j)]) (st' := [.int 3, .int 0, .int e, .ref 42, .int ((3 * q) + (nI j)), .ref 53]) (σ' := (mj_KS N, I, mj_PP c d r)) 11 rfl trivial ?_
    refine R_ce (idx := 127) (mid := 102) (kind := 0) (N := N) (M' := mj_m_X6_digit) (As := [.ref 42, .int e, .int 0, .int 3]) (rest := [.int ((3 * q) + (nI j)), .ref 53]) (I := I) (P := mj_PP c d r) (I' := (s_X6_digit e 0 3 I).2) (P' := mj_PP c d r) (v := some (.int ((s_X6_digit e 0 3 I).1))) rfl rfl rfl mj_mc102 mj_dc102 rfl rfl rfl rfl rfl rfl (x_X6_digit l b base D z N e 0 3 I c d r (hT)) ?_
    have t1 : mj6_T e (s_X6_digit e 0 3 I).2 := mj6_dg_T hT
    have p1 : (s_X6_digit e 0 3 I).2 42 13 = I 42 13 := mj6_dg_42 _ _ _ _ _ (by decide)
    generalize hg1 : (s_X6_digit e 0 3 I) = g1 at t1 p1 ⊢
    refine R_seg (φ := [mj_in ((3 * q) + (nI j)) 9, mj_in ((3 * q) + (nI j)) 9]) (pc' := 128) (L' := [.ref 42, .int e, .int q, .int f, .int (nI j)]) (st' := [.int (-9), .int ((mj_upI (g1.2) 53 ((3 * q) + (nI j)) (g1.1)) 53 ((3 * q) + (nI j)))]) (σ' := (mj_KS N, (mj_upI (g1.2) 53 ((3 * q) + (nI j)) (g1.1)), mj_PP c d r)) 10 rfl ⟨hin, hin, trivial⟩ ?_
    refine R_br (q := ((mj_upI (g1.2) 53 ((3 * q) + (nI j)) (g1.1)) 53 ((3 * q) + (nI j)) : Int32) = (-9)) (t := 131) (f := 133) (rest := []) rfl (fun h2 => ?_) (fun h2 => ?_)
    · skip
      refine R_seg (φ := []) (pc' := 132) (L' := [.ref 42, .int e, .int q, .int f, .int (nI j)]) (st' := [.int 0]) (σ' := (mj_KS N, (mj_upI (g1.2) 53 ((3 * q) + (nI j)) (g1.1)), mj_PP c d r)) 1 rfl trivial ?_
      exact R_rb rfl rfl (Or.inl rfl) (mj_leaf (by simp only [s_X6_rw, hg1, if_pos h2, Bool.false_eq_true, ↓reduceIte, Nat.reduceAdd, Nat.reduceMul, mj_tn0, mj_tn1, mj_tn2, mj_tn3]) (by simp only [s_X6_rw, hg1, if_pos h2, Bool.false_eq_true, ↓reduceIte, Nat.reduceAdd, Nat.reduceMul, mj_tn0, mj_tn1, mj_tn2, mj_tn3]))
    · skip
      refine R_seg (φ := []) (pc' := 91) (L' := [.ref 42, .int e, .int q, .int f, .int ((nI j) + 1)]) (st' := []) (σ' := (mj_KS N, (mj_upI (g1.2) 53 ((3 * q) + (nI j)) (g1.1)), mj_PP c d r)) 2 rfl trivial ?_
      rw [nI_1 j]
      rw [show s_X6_rw e q f (k + 1) j  I = s_X6_rw e q f k (j + 1)  (mj_upI (g1.2) 53 ((3 * q) + (nI j)) (g1.1)) from by simp only [s_X6_rw, hg1, if_neg h2, Bool.false_eq_true, ↓reduceIte, Nat.reduceAdd, Nat.reduceMul, mj_tn0, mj_tn1, mj_tn2, mj_tn3]]
      exact ih (j + 1)  (mj_upI (g1.2) 53 ((3 * q) + (nI j)) (g1.1)) (by omega) (by omega) (by omega) (mj6_T_up t1 (by decide))
def s_X6_readPlant (e : Int32) (I : mj_I) : Int32 × mj_I := if (I 42 11 : Int32) < e then (if (I 45 (I 42 11) : Int32) = 112 then ((s_X6_rw e (I 42 13) (I 45 (I 42 11)) 3 0  (mj_upI (mj_upI I 52 (I 42 13) 0) 42 11 ((I 42 11) + 1))).1, (s_X6_rw e (I 42 13) (I 45 (I 42 11)) 3 0  (mj_upI (mj_upI I 52 (I 42 13) 0) 42 11 ((I 42 11) + 1))).2) else (if (I 45 (I 42 11) : Int32) = 115 then ((s_X6_rw e (I 42 13) (I 45 (I 42 11)) 3 0  (mj_upI (mj_upI I 52 (I 42 13) 1) 42 11 ((I 42 11) + 1))).1, (s_X6_rw e (I 42 13) (I 45 (I 42 11)) 3 0  (mj_upI (mj_upI I 52 (I 42 13) 1) 42 11 ((I 42 11) + 1))).2) else (if (I 45 (I 42 11) : Int32) = 119 then ((s_X6_rw e (I 42 13) (I 45 (I 42 11)) 3 0  (mj_upI (mj_upI I 52 (I 42 13) 2) 42 11 ((I 42 11) + 1))).1, (s_X6_rw e (I 42 13) (I 45 (I 42 11)) 3 0  (mj_upI (mj_upI I 52 (I 42 13) 2) 42 11 ((I 42 11) + 1))).2) else (0, (mj_upI I 52 (I 42 13) (-9)))))) else (0, (mj_upI I 52 (I 42 13) (-9)))
set_option maxHeartbeats 8000000 in
theorem x_X6_readPlant (l : Launch) (b base : Nat) (D : va_G) (z : mj_K × (Int32 → Int32)) (N : Nat) (e : Int32) (I : mj_I) (c d r : Nat) (hT : mj6_T e I) (hp : mj_in (I 42 13) 3) : mj_Rn l b base D z mj_m_X6_readPlant 0 [.ref 42, .int e, mj_mk, mj_mk, mj_mk] [] (mj_KS N, I, mj_PP c d r) (mj_E N (some (.int (s_X6_readPlant e I).1)) (s_X6_readPlant e I).2 (mj_PP c d r)) := by
  refine R_seg (φ := []) (pc' := 10) (L' := [.ref 42, .int e, .int (I 42 13), mj_mk, mj_mk]) (st' := [.int e, .int (I 42 11)]) (σ' := (mj_KS N, I, mj_PP c d r)) 6 rfl trivial ?_
  refine R_br (q := (I 42 11 : Int32) < e) (t := 13) (f := 25) (rest := []) rfl (fun h1 => ?_) (fun h1 => ?_)
  · skip
    refine R_seg (φ := [mj_in (I 42 11) 240]) (pc' := 35) (L' := [.ref 42, .int e, .int (I 42 13), .int (I 45 (I 42 11)), mj_mk]) (st' := [.int 112, .int (I 45 (I 42 11)), .int (I 42 13), .ref 52]) (σ' := (mj_KS N, I, mj_PP c d r)) 12 rfl ⟨(mj6_Tin hT (by assumption)), trivial⟩ ?_
    refine R_br (q := (I 45 (I 42 11) : Int32) = 112) (t := 38) (f := 42) (rest := [.int (I 42 13), .ref 52]) rfl (fun h2 => ?_) (fun h2 => ?_)
    · skip
      refine R_seg (φ := [mj_in (I 42 13) 3, mj_in (I 42 13) 3]) (pc' := 73) (L' := [.ref 42, .int e, .int (I 42 13), .int (I 45 (I 42 11)), mj_mk]) (st' := [.int (-9), .int ((mj_upI I 52 (I 42 13) 0) 52 (I 42 13))]) (σ' := (mj_KS N, (mj_upI I 52 (I 42 13) 0), mj_PP c d r)) 8 rfl ⟨hp, hp, trivial⟩ ?_
      refine R_br (q := ((mj_upI I 52 (I 42 13) 0) 52 (I 42 13) : Int32) = (-9)) (t := 76) (f := 78) (rest := []) rfl (fun h3 => absurd h3 (by rw [mj_upI_eq, if_pos rfl]; decide)) (fun h3 => ?_)
      refine R_seg (φ := []) (pc' := 91) (L' := [.ref 42, .int e, .int (I 42 13), .int (I 45 (I 42 11)), .int 0]) (st' := []) (σ' := (mj_KS N, (mj_upI (mj_upI I 52 (I 42 13) 0) 42 11 ((I 42 11) + 1)), mj_PP c d r)) 8 rfl trivial ?_
      simp only [s_X6_readPlant, if_pos h1, if_pos h2, Bool.false_eq_true, ↓reduceIte, Nat.reduceAdd, Nat.reduceMul, mj_tn0, mj_tn1, mj_tn2, mj_tn3]
      exact x_X6_rw l b base D z N e (I 42 13) (I 45 (I 42 11)) c d r hp 3 0  (mj_upI (mj_upI I 52 (I 42 13) 0) 42 11 ((I 42 11) + 1)) (by omega) (by omega) (by omega) (mj6_T1 (mj6_T_up hT (by decide)) (by assumption))
    · skip
      refine R_seg (φ := []) (pc' := 45) (L' := [.ref 42, .int e, .int (I 42 13), .int (I 45 (I 42 11)), mj_mk]) (st' := [.int 115, .int (I 45 (I 42 11)), .int (I 42 13), .ref 52]) (σ' := (mj_KS N, I, mj_PP c d r)) 2 rfl trivial ?_
      refine R_br (q := (I 45 (I 42 11) : Int32) = 115) (t := 48) (f := 52) (rest := [.int (I 42 13), .ref 52]) rfl (fun h4 => ?_) (fun h4 => ?_)
      · skip
        refine R_seg (φ := [mj_in (I 42 13) 3, mj_in (I 42 13) 3]) (pc' := 73) (L' := [.ref 42, .int e, .int (I 42 13), .int (I 45 (I 42 11)), mj_mk]) (st' := [.int (-9), .int ((mj_upI I 52 (I 42 13) 1) 52 (I 42 13))]) (σ' := (mj_KS N, (mj_upI I 52 (I 42 13) 1), mj_PP c d r)) 8 rfl ⟨hp, hp, trivial⟩ ?_
        refine R_br (q := ((mj_upI I 52 (I 42 13) 1) 52 (I 42 13) : Int32) = (-9)) (t := 76) (f := 78) (rest := []) rfl (fun h5 => absurd h5 (by rw [mj_upI_eq, if_pos rfl]; decide)) (fun h5 => ?_)
        refine R_seg (φ := []) (pc' := 91) (L' := [.ref 42, .int e, .int (I 42 13), .int (I 45 (I 42 11)), .int 0]) (st' := []) (σ' := (mj_KS N, (mj_upI (mj_upI I 52 (I 42 13) 1) 42 11 ((I 42 11) + 1)), mj_PP c d r)) 8 rfl trivial ?_
        simp only [s_X6_readPlant, if_pos h1, if_neg h2, if_pos h4, Bool.false_eq_true, ↓reduceIte, Nat.reduceAdd, Nat.reduceMul, mj_tn0, mj_tn1, mj_tn2, mj_tn3]
        exact x_X6_rw l b base D z N e (I 42 13) (I 45 (I 42 11)) c d r hp 3 0  (mj_upI (mj_upI I 52 (I 42 13) 1) 42 11 ((I 42 11) + 1)) (by omega) (by omega) (by omega) (mj6_T1 (mj6_T_up hT (by decide)) (by assumption))
      · skip
        refine R_seg (φ := []) (pc' := 55) (L' := [.ref 42, .int e, .int (I 42 13), .int (I 45 (I 42 11)), mj_mk]) (st' := [.int 119, .int (I 45 (I 42 11)), .int (I 42 13), .ref 52]) (σ' := (mj_KS N, I, mj_PP c d r)) 2 rfl trivial ?_
        refine R_br (q := (I 45 (I 42 11) : Int32) = 119) (t := 58) (f := 62) (rest := [.int (I 42 13), .ref 52]) rfl (fun h6 => ?_) (fun h6 => ?_)
        · skip
          refine R_seg (φ := [mj_in (I 42 13) 3, mj_in (I 42 13) 3]) (pc' := 73) (L' := [.ref 42, .int e, .int (I 42 13), .int (I 45 (I 42 11)), mj_mk]) (st' := [.int (-9), .int ((mj_upI I 52 (I 42 13) 2) 52 (I 42 13))]) (σ' := (mj_KS N, (mj_upI I 52 (I 42 13) 2), mj_PP c d r)) 8 rfl ⟨hp, hp, trivial⟩ ?_
          refine R_br (q := ((mj_upI I 52 (I 42 13) 2) 52 (I 42 13) : Int32) = (-9)) (t := 76) (f := 78) (rest := []) rfl (fun h7 => absurd h7 (by rw [mj_upI_eq, if_pos rfl]; decide)) (fun h7 => ?_)
          refine R_seg (φ := []) (pc' := 91) (L' := [.ref 42, .int e, .int (I 42 13), .int (I 45 (I 42 11)), .int 0]) (st' := []) (σ' := (mj_KS N, (mj_upI (mj_upI I 52 (I 42 13) 2) 42 11 ((I 42 11) + 1)), mj_PP c d r)) 8 rfl trivial ?_
          simp only [s_X6_readPlant, if_pos h1, if_neg h2, if_neg h4, if_pos h6, Bool.false_eq_true, ↓reduceIte, Nat.reduceAdd, Nat.reduceMul, mj_tn0, mj_tn1, mj_tn2, mj_tn3]
          exact x_X6_rw l b base D z N e (I 42 13) (I 45 (I 42 11)) c d r hp 3 0  (mj_upI (mj_upI I 52 (I 42 13) 2) 42 11 ((I 42 11) + 1)) (by omega) (by omega) (by omega) (mj6_T1 (mj6_T_up hT (by decide)) (by assumption))
        · skip
          refine R_seg (φ := [mj_in (I 42 13) 3, mj_in (I 42 13) 3]) (pc' := 73) (L' := [.ref 42, .int e, .int (I 42 13), .int (I 45 (I 42 11)), mj_mk]) (st' := [.int (-9), .int ((mj_upI I 52 (I 42 13) (-9)) 52 (I 42 13))]) (σ' := (mj_KS N, (mj_upI I 52 (I 42 13) (-9)), mj_PP c d r)) 7 rfl ⟨hp, hp, trivial⟩ ?_
          refine R_br (q := ((mj_upI I 52 (I 42 13) (-9)) 52 (I 42 13) : Int32) = (-9)) (t := 76) (f := 78) (rest := []) rfl (fun h8 => ?_) (fun h8 => absurd (by rw [mj_upI_eq, if_pos rfl]) h8)
          refine R_seg (φ := []) (pc' := 77) (L' := [.ref 42, .int e, .int (I 42 13), .int (I 45 (I 42 11)), mj_mk]) (st' := [.int 0]) (σ' := (mj_KS N, (mj_upI I 52 (I 42 13) (-9)), mj_PP c d r)) 1 rfl trivial ?_
          exact R_rb rfl rfl (Or.inl rfl) (mj_leaf (by simp only [s_X6_readPlant, if_pos h1, if_neg h2, if_neg h4, if_neg h6, Bool.false_eq_true, ↓reduceIte, Nat.reduceAdd, Nat.reduceMul, mj_tn0, mj_tn1, mj_tn2, mj_tn3]) (by simp only [s_X6_readPlant, if_pos h1, if_neg h2, if_neg h4, if_neg h6, Bool.false_eq_true, ↓reduceIte, Nat.reduceAdd, Nat.reduceMul, mj_tn0, mj_tn1, mj_tn2, mj_tn3]))
  · skip
    refine R_seg (φ := []) (pc' := 35) (L' := [.ref 42, .int e, .int (I 42 13), .int 0, mj_mk]) (st' := [.int 112, .int 0, .int (I 42 13), .ref 52]) (σ' := (mj_KS N, I, mj_PP c d r)) 7 rfl trivial ?_
    refine R_br (q := (0 : Int32) = 112) (t := 38) (f := 42) (rest := [.int (I 42 13), .ref 52]) rfl (fun h9 => absurd h9 (by decide)) (fun h9 => ?_)
    refine R_seg (φ := []) (pc' := 45) (L' := [.ref 42, .int e, .int (I 42 13), .int 0, mj_mk]) (st' := [.int 115, .int 0, .int (I 42 13), .ref 52]) (σ' := (mj_KS N, I, mj_PP c d r)) 2 rfl trivial ?_
    refine R_br (q := (0 : Int32) = 115) (t := 48) (f := 52) (rest := [.int (I 42 13), .ref 52]) rfl (fun h10 => absurd h10 (by decide)) (fun h10 => ?_)
    refine R_seg (φ := []) (pc' := 55) (L' := [.ref 42, .int e, .int (I 42 13), .int 0, mj_mk]) (st' := [.int 119, .int 0, .int (I 42 13), .ref 52]) (σ' := (mj_KS N, I, mj_PP c d r)) 2 rfl trivial ?_
    refine R_br (q := (0 : Int32) = 119) (t := 58) (f := 62) (rest := [.int (I 42 13), .ref 52]) rfl (fun h11 => absurd h11 (by decide)) (fun h11 => ?_)
    refine R_seg (φ := [mj_in (I 42 13) 3, mj_in (I 42 13) 3]) (pc' := 73) (L' := [.ref 42, .int e, .int (I 42 13), .int 0, mj_mk]) (st' := [.int (-9), .int ((mj_upI I 52 (I 42 13) (-9)) 52 (I 42 13))]) (σ' := (mj_KS N, (mj_upI I 52 (I 42 13) (-9)), mj_PP c d r)) 7 rfl ⟨hp, hp, trivial⟩ ?_
    refine R_br (q := ((mj_upI I 52 (I 42 13) (-9)) 52 (I 42 13) : Int32) = (-9)) (t := 76) (f := 78) (rest := []) rfl (fun h12 => ?_) (fun h12 => absurd (by rw [mj_upI_eq, if_pos rfl]) h12)
    refine R_seg (φ := []) (pc' := 77) (L' := [.ref 42, .int e, .int (I 42 13), .int 0, mj_mk]) (st' := [.int 0]) (σ' := (mj_KS N, (mj_upI I 52 (I 42 13) (-9)), mj_PP c d r)) 1 rfl trivial ?_
    exact R_rb rfl rfl (Or.inl rfl) (mj_leaf (by simp only [s_X6_readPlant, if_neg h1, Bool.false_eq_true, ↓reduceIte, Nat.reduceAdd, Nat.reduceMul, mj_tn0, mj_tn1, mj_tn2, mj_tn3]) (by simp only [s_X6_readPlant, if_neg h1, Bool.false_eq_true, ↓reduceIte, Nat.reduceAdd, Nat.reduceMul, mj_tn0, mj_tn1, mj_tn2, mj_tn3]))
theorem mj6_rw_l (e q f : Int32) : ∀ (k j : Nat) (I : mj_I), mj6_T e I → mj6_T e (s_X6_rw e q f k j I).2 ∧ ((s_X6_rw e q f k j I).1 = 0 ∨ ((s_X6_rw e q f k j I).1 = 1 ∧ (s_X6_rw e q f k j I).2 42 13 = I 42 13 + 1)) := by
  intro k
  induction k with
  | zero =>
    intro j I h
    refine ⟨?_, Or.inr ⟨rfl, ?_⟩⟩
    · exact mj6_T_13 h
    · show mj_upI I 42 13 (I 42 13 + 1) 42 13 = I 42 13 + 1
      rw [mj_upI_eq, if_pos rfl]
  | succ k ih =>
    intro j I h
    have t1 := mj6_dg_T (e := e) (f := 0) (g := 3) h
    rw [s_X6_rw]
    split
    · exact ⟨mj6_T_up t1 (by decide), Or.inl rfl⟩
    · have := ih (j + 1) (mj_upI (s_X6_digit e 0 3 I).2 53 (3 * q + nI j) (s_X6_digit e 0 3 I).1) (mj6_T_up t1 (by decide))
      rw [mj_upI_ne (show (42 : Nat) ≠ 53 by decide), mj6_dg_42 _ _ _ _ _ (by decide)] at this
      exact this
theorem mj6_rp_l {e : Int32} {I : mj_I} (h : mj6_T e I) : mj6_T e (s_X6_readPlant e I).2 ∧ ((s_X6_readPlant e I).1 = 0 ∨ ((s_X6_readPlant e I).1 = 1 ∧ (s_X6_readPlant e I).2 42 13 = I 42 13 + 1)) := by
  unfold s_X6_readPlant
  by_cases h1 : I 42 11 < e
  · have key : ∀ v f : Int32, mj6_T e (s_X6_rw e (I 42 13) f 3 0 (mj_upI (mj_upI I 52 (I 42 13) v) 42 11 (I 42 11 + 1))).2 ∧ ((s_X6_rw e (I 42 13) f 3 0 (mj_upI (mj_upI I 52 (I 42 13) v) 42 11 (I 42 11 + 1))).1 = 0 ∨ ((s_X6_rw e (I 42 13) f 3 0 (mj_upI (mj_upI I 52 (I 42 13) v) 42 11 (I 42 11 + 1))).1 = 1 ∧ (s_X6_rw e (I 42 13) f 3 0 (mj_upI (mj_upI I 52 (I 42 13) v) 42 11 (I 42 11 + 1))).2 42 13 = I 42 13 + 1)) := by
      intro v f
      have := mj6_rw_l e (I 42 13) f 3 0 (mj_upI (mj_upI I 52 (I 42 13) v) 42 11 (I 42 11 + 1)) (mj6_T1 (mj6_T_up h (by decide)) h1)
      rw [mj_upI_eq (a := 42), if_neg (by decide), mj_upI_ne (show (42 : Nat) ≠ 52 by decide)] at this
      exact this
    rw [if_pos h1]
    generalize s_X6_rw e (I 42 13) = F at key ⊢
    repeat' split
    all_goals first
      | exact key _ _
      | exact ⟨mj6_T_up h (by decide), Or.inl rfl⟩
  · rw [if_neg h1]
    exact ⟨mj6_T_up h (by decide), Or.inl rfl⟩
theorem mj6_rc_l {e : Int32} {I : mj_I} (h : mj6_TS e I) : mj6_TS e (s_X6_readCorner e I).2 ∧ (s_X6_readCorner e I).2 42 13 = I 42 13 := by
  have a1 := mj6_dg_TS (f := 0) (g := I 42 12 - 1) h
  have b1 := mj6_dg_42 e 0 (I 42 12 - 1) I 13 (by decide)
  unfold s_X6_readCorner
  generalize s_X6_digit e 0 (I 42 12 - 1) I = g1 at a1 b1 ⊢
  have a2 := mj6_dg_TS (f := 0) (g := g1.2 42 12 - 1) a1
  have b2 := (mj6_dg_42 e 0 (g1.2 42 12 - 1) g1.2 13 (by decide)).trans b1
  generalize s_X6_digit e 0 (g1.2 42 12 - 1) g1.2 = g2 at a2 b2 ⊢
  repeat' split
  all_goals first
    | exact ⟨a1, b1⟩
    | exact ⟨a2, b2⟩
    | exact ⟨mj6_TS_up (mj6_TS_up a2 (by decide)) (by decide), b2⟩
theorem mj6_c3a {j : Nat} (h : 3 ≤ j) (h2 : j ≤ 3) : ¬ nI j = 0 := by
  have : j = 3 := by omega
  subst this
  decide
theorem mj6_c3i {x : Int32} {j : Nat} (h : x = nI j) (hj : j < 3) : mj_in x 3 := by rw [h]; exact mj_in_nI hj (by decide)
theorem mj6_p1 {x y a : Int32} {j : Nat} (h : a = 0 ∨ (a = 1 ∧ x = y + 1)) (hn : ¬ a = 0) (hy : y = nI j) : x = nI (j + 1) := by
  rcases h with h | ⟨_, h⟩
  · exact absurd h hn
  · rw [h, hy, nI_1]
def s_X6_rC (e : Int32) : Nat → Nat → mj_I → Int32 × mj_I
  | 0, j, I => if (I 42 11 : Int32) = e then (1, I) else (0, I)
  | k + 1, j, I => if (I 42 13 : Int32) = 0 then (if (((s_X6_isSign e 44 I).1) : Int32) = 0 then (0, ((s_X6_isSign e 44 I).2)) else (if (((s_X6_readPlant e (((s_X6_isSign e 44 I).2))).1) : Int32) = 0 then (0, ((s_X6_readPlant e (((s_X6_isSign e 44 I).2))).2)) else (s_X6_rC e k (j + 1)  (((s_X6_readPlant e (((s_X6_isSign e 44 I).2))).2))))) else (if (I 42 13 : Int32) < 3 then (if (I 42 11 : Int32) < e then (if (((s_X6_isSign e 44 I).1) : Int32) = 0 then (0, ((s_X6_isSign e 44 I).2)) else (if (((s_X6_readPlant e (((s_X6_isSign e 44 I).2))).1) : Int32) = 0 then (0, ((s_X6_readPlant e (((s_X6_isSign e 44 I).2))).2)) else (s_X6_rC e k (j + 1)  (((s_X6_readPlant e (((s_X6_isSign e 44 I).2))).2))))) else (if (I 42 11 : Int32) = e then (1, I) else (0, I))) else (if (I 42 11 : Int32) = e then (1, I) else (0, I)))
set_option maxHeartbeats 8000000 in
theorem x_X6_rC (l : Launch) (b base : Nat) (D : va_G) (z : mj_K × (Int32 → Int32)) (N : Nat) (e : Int32) (c d r : Nat) : ∀ (k j : Nat) (w2 : Value) (I : mj_I), k = 3 - j → 0 ≤ j → j ≤ 3 + 1 → (mj6_T e I) → (j ≤ 3) → (I 42 13 = nI j) → mj_Rn l b base D z mj_m_X6_readCity 123 [.ref 42, .int e, w2] [] (mj_KS N, I, mj_PP c d r) (mj_E N (some (.int (s_X6_rC e k j  I).1)) (s_X6_rC e k j  I).2 (mj_PP c d r)) := by
  intro k
  induction k with
  | zero =>
    intro j w2 I hk hlo hj hT hj3 hpj
    refine R_seg (φ := []) (pc' := 127) (L' := [.ref 42, .int e, w2]) (st' := [.int (I 42 13)]) (σ' := (mj_KS N, I, mj_PP c d r)) 2 rfl trivial ?_
    refine R_br (q := (I 42 13 : Int32) = 0) (t := 146) (f := 130) (rest := []) rfl (fun h1 => absurd h1 (by rw [hpj]; exact mj6_c3a (by omega) hj3)) (fun h1 => ?_)
    refine R_seg (φ := []) (pc' := 135) (L' := [.ref 42, .int e, w2]) (st' := [.int 3, .int (I 42 13)]) (σ' := (mj_KS N, I, mj_PP c d r)) 3 rfl trivial ?_
    refine R_br (q := (I 42 13 : Int32) < 3) (t := 138) (f := 166) (rest := []) rfl (fun h2 => absurd h2 (by rw [hpj]; exact (show ¬ nI j < nI 3 from nI_nlt (by omega) (by omega)))) (fun h2 => ?_)
    refine R_seg (φ := []) (pc' := 171) (L' := [.ref 42, .int e, w2]) (st' := [.int e, .int (I 42 11)]) (σ' := (mj_KS N, I, mj_PP c d r)) 3 rfl trivial ?_
    refine R_br (q := (I 42 11 : Int32) = e) (t := 174) (f := 178) (rest := []) rfl (fun h3 => ?_) (fun h3 => ?_)
    · skip
      refine R_seg (φ := []) (pc' := 179) (L' := [.ref 42, .int e, w2]) (st' := [.int 1]) (σ' := (mj_KS N, I, mj_PP c d r)) 2 rfl trivial ?_
      exact R_rb rfl rfl (Or.inr rfl) (mj_leaf (by simp only [s_X6_rC, if_pos h3, Bool.false_eq_true, ↓reduceIte, Nat.reduceAdd, Nat.reduceMul, mj_tn0, mj_tn1, mj_tn2, mj_tn3]) (by simp only [s_X6_rC, if_pos h3, Bool.false_eq_true, ↓reduceIte, Nat.reduceAdd, Nat.reduceMul, mj_tn0, mj_tn1, mj_tn2, mj_tn3]))
    · skip
      refine R_seg (φ := []) (pc' := 179) (L' := [.ref 42, .int e, w2]) (st' := [.int 0]) (σ' := (mj_KS N, I, mj_PP c d r)) 1 rfl trivial ?_
      exact R_rb rfl rfl (Or.inl rfl) (mj_leaf (by simp only [s_X6_rC, if_neg h3, Bool.false_eq_true, ↓reduceIte, Nat.reduceAdd, Nat.reduceMul, mj_tn0, mj_tn1, mj_tn2, mj_tn3]) (by simp only [s_X6_rC, if_neg h3, Bool.false_eq_true, ↓reduceIte, Nat.reduceAdd, Nat.reduceMul, mj_tn0, mj_tn1, mj_tn2, mj_tn3]))
  | succ k ih =>
    intro j w2 I hk hlo hj hT hj3 hpj
    have hjm : j < 3 := by omega
    refine R_seg (φ := []) (pc' := 127) (L' := [.ref 42, .int e, w2]) (st' := [.int (I 42 13)]) (σ' := (mj_KS N, I, mj_PP c d r)) 2 rfl trivial ?_
    refine R_br (q := (I 42 13 : Int32) = 0) (t := 146) (f := 130) (rest := []) rfl (fun h1 => ?_) (fun h1 => ?_)
    · skip
      refine R_seg (φ := []) (pc' := 150) (L' := [.ref 42, .int e, w2]) (st' := [.int 44, .int e, .ref 42]) (σ' := (mj_KS N, I, mj_PP c d r)) 3 rfl trivial ?_
      refine R_ce (idx := 123) (mid := 103) (kind := 0) (N := N) (M' := mj_m_X6_isSign) (As := [.ref 42, .int e, .int 44]) (rest := []) (I := I) (P := mj_PP c d r) (I' := (s_X6_isSign e 44 I).2) (P' := mj_PP c d r) (v := some (.int ((s_X6_isSign e 44 I).1))) rfl rfl rfl mj_mc103 mj_dc103 rfl rfl rfl rfl rfl rfl (x_X6_isSign l b base D z N e 44 I c d r (hT)) ?_
      have t1 : mj6_T e (s_X6_isSign e 44 I).2 := mj6_sg_T hT
      have p1 : (s_X6_isSign e 44 I).2 42 13 = nI j := (mj6_sg_42 _ _ _ _ (by decide)).trans hpj
      generalize hg1 : (s_X6_isSign e 44 I) = g1 at t1 p1 ⊢
      refine R_seg (φ := []) (pc' := 153) (L' := [.ref 42, .int e, w2]) (st' := [.int (g1.1)]) (σ' := (mj_KS N, g1.2, mj_PP c d r)) 0 rfl trivial ?_
      refine R_br (q := (g1.1 : Int32) = 0) (t := 164) (f := 156) (rest := []) rfl (fun h2 => ?_) (fun h2 => ?_)
      · skip
        refine R_seg (φ := []) (pc' := 165) (L' := [.ref 42, .int e, w2]) (st' := [.int 0]) (σ' := (mj_KS N, g1.2, mj_PP c d r)) 1 rfl trivial ?_
        exact R_rb rfl rfl (Or.inl rfl) (mj_leaf (by simp only [s_X6_rC, hg1, if_pos h1, if_pos h2, Bool.false_eq_true, ↓reduceIte, Nat.reduceAdd, Nat.reduceMul, mj_tn0, mj_tn1, mj_tn2, mj_tn3]) (by simp only [s_X6_rC, hg1, if_pos h1, if_pos h2, Bool.false_eq_true, ↓reduceIte, Nat.reduceAdd, Nat.reduceMul, mj_tn0, mj_tn1, mj_tn2, mj_tn3]))
      · skip
        refine R_seg (φ := []) (pc' := 158) (L' := [.ref 42, .int e, w2]) (st' := [.int e, .ref 42]) (σ' := (mj_KS N, g1.2, mj_PP c d r)) 2 rfl trivial ?_
        refine R_ce (idx := 134) (mid := 108) (kind := 0) (N := N) (M' := mj_m_X6_readPlant) (As := [.ref 42, .int e]) (rest := []) (I := g1.2) (P := mj_PP c d r) (I' := (s_X6_readPlant e (g1.2)).2) (P' := mj_PP c d r) (v := some (.int ((s_X6_readPlant e (g1.2)).1))) rfl rfl rfl mj_mc108 mj_dc108 rfl rfl rfl rfl rfl rfl (x_X6_readPlant l b base D z N e  (g1.2) c d r t1 (mj6_c3i p1 (by omega))) ?_
        have t2 : mj6_T e (s_X6_readPlant e (g1.2)).2 ∧ ((s_X6_readPlant e (g1.2)).1 = 0 ∨ ((s_X6_readPlant e (g1.2)).1 = 1 ∧ (s_X6_readPlant e (g1.2)).2 42 13 = g1.2 42 13 + 1)) := mj6_rp_l t1
        generalize hg2 : (s_X6_readPlant e (g1.2)) = g2 at t2 ⊢
        refine R_seg (φ := []) (pc' := 161) (L' := [.ref 42, .int e, w2]) (st' := [.int (g2.1)]) (σ' := (mj_KS N, g2.2, mj_PP c d r)) 0 rfl trivial ?_
        refine R_br (q := (g2.1 : Int32) = 0) (t := 164) (f := 123) (rest := []) rfl (fun h3 => ?_) (fun h3 => ?_)
        · skip
          refine R_seg (φ := []) (pc' := 165) (L' := [.ref 42, .int e, w2]) (st' := [.int 0]) (σ' := (mj_KS N, g2.2, mj_PP c d r)) 1 rfl trivial ?_
          exact R_rb rfl rfl (Or.inl rfl) (mj_leaf (by simp only [s_X6_rC, hg1, hg2, if_pos h1, if_neg h2, if_pos h3, Bool.false_eq_true, ↓reduceIte, Nat.reduceAdd, Nat.reduceMul, mj_tn0, mj_tn1, mj_tn2, mj_tn3]) (by simp only [s_X6_rC, hg1, hg2, if_pos h1, if_neg h2, if_pos h3, Bool.false_eq_true, ↓reduceIte, Nat.reduceAdd, Nat.reduceMul, mj_tn0, mj_tn1, mj_tn2, mj_tn3]))
        · skip
          rw [show s_X6_rC e (k + 1) j  I = s_X6_rC e k (j + 1)  (g2.2) from by simp only [s_X6_rC, hg1, hg2, if_pos h1, if_neg h2, if_neg h3, Bool.false_eq_true, ↓reduceIte, Nat.reduceAdd, Nat.reduceMul, mj_tn0, mj_tn1, mj_tn2, mj_tn3]]
          exact ih (j + 1)  w2 (g2.2) (by omega) (by omega) (by omega) (t2.1) ((by omega)) (mj6_p1 t2.2 h3 p1)
    · skip
      refine R_seg (φ := []) (pc' := 135) (L' := [.ref 42, .int e, w2]) (st' := [.int 3, .int (I 42 13)]) (σ' := (mj_KS N, I, mj_PP c d r)) 3 rfl trivial ?_
      refine R_br (q := (I 42 13 : Int32) < 3) (t := 138) (f := 166) (rest := []) rfl (fun h4 => ?_) (fun h4 => ?_)
      · skip
        refine R_seg (φ := []) (pc' := 143) (L' := [.ref 42, .int e, w2]) (st' := [.int e, .int (I 42 11)]) (σ' := (mj_KS N, I, mj_PP c d r)) 3 rfl trivial ?_
        refine R_br (q := (I 42 11 : Int32) < e) (t := 146) (f := 166) (rest := []) rfl (fun h5 => ?_) (fun h5 => ?_)
        · skip
          refine R_seg (φ := []) (pc' := 150) (L' := [.ref 42, .int e, w2]) (st' := [.int 44, .int e, .ref 42]) (σ' := (mj_KS N, I, mj_PP c d r)) 3 rfl trivial ?_
          refine R_ce (idx := 123) (mid := 103) (kind := 0) (N := N) (M' := mj_m_X6_isSign) (As := [.ref 42, .int e, .int 44]) (rest := []) (I := I) (P := mj_PP c d r) (I' := (s_X6_isSign e 44 I).2) (P' := mj_PP c d r) (v := some (.int ((s_X6_isSign e 44 I).1))) rfl rfl rfl mj_mc103 mj_dc103 rfl rfl rfl rfl rfl rfl (x_X6_isSign l b base D z N e 44 I c d r (hT)) ?_
          have t1 : mj6_T e (s_X6_isSign e 44 I).2 := mj6_sg_T hT
          have p1 : (s_X6_isSign e 44 I).2 42 13 = nI j := (mj6_sg_42 _ _ _ _ (by decide)).trans hpj
          generalize hg1 : (s_X6_isSign e 44 I) = g1 at t1 p1 ⊢
          refine R_seg (φ := []) (pc' := 153) (L' := [.ref 42, .int e, w2]) (st' := [.int (g1.1)]) (σ' := (mj_KS N, g1.2, mj_PP c d r)) 0 rfl trivial ?_
          refine R_br (q := (g1.1 : Int32) = 0) (t := 164) (f := 156) (rest := []) rfl (fun h6 => ?_) (fun h6 => ?_)
          · skip
            refine R_seg (φ := []) (pc' := 165) (L' := [.ref 42, .int e, w2]) (st' := [.int 0]) (σ' := (mj_KS N, g1.2, mj_PP c d r)) 1 rfl trivial ?_
            exact R_rb rfl rfl (Or.inl rfl) (mj_leaf (by simp only [s_X6_rC, hg1, if_neg h1, if_pos h4, if_pos h5, if_pos h6, Bool.false_eq_true, ↓reduceIte, Nat.reduceAdd, Nat.reduceMul, mj_tn0, mj_tn1, mj_tn2, mj_tn3]) (by simp only [s_X6_rC, hg1, if_neg h1, if_pos h4, if_pos h5, if_pos h6, Bool.false_eq_true, ↓reduceIte, Nat.reduceAdd, Nat.reduceMul, mj_tn0, mj_tn1, mj_tn2, mj_tn3]))
          · skip
            refine R_seg (φ := []) (pc' := 158) (L' := [.ref 42, .int e, w2]) (st' := [.int e, .ref 42]) (σ' := (mj_KS N, g1.2, mj_PP c d r)) 2 rfl trivial ?_
            refine R_ce (idx := 134) (mid := 108) (kind := 0) (N := N) (M' := mj_m_X6_readPlant) (As := [.ref 42, .int e]) (rest := []) (I := g1.2) (P := mj_PP c d r) (I' := (s_X6_readPlant e (g1.2)).2) (P' := mj_PP c d r) (v := some (.int ((s_X6_readPlant e (g1.2)).1))) rfl rfl rfl mj_mc108 mj_dc108 rfl rfl rfl rfl rfl rfl (x_X6_readPlant l b base D z N e  (g1.2) c d r t1 (mj6_c3i p1 (by omega))) ?_
            have t2 : mj6_T e (s_X6_readPlant e (g1.2)).2 ∧ ((s_X6_readPlant e (g1.2)).1 = 0 ∨ ((s_X6_readPlant e (g1.2)).1 = 1 ∧ (s_X6_readPlant e (g1.2)).2 42 13 = g1.2 42 13 + 1)) := mj6_rp_l t1
            generalize hg2 : (s_X6_readPlant e (g1.2)) = g2 at t2 ⊢
            refine R_seg (φ := []) (pc' := 161) (L' := [.ref 42, .int e, w2]) (st' := [.int (g2.1)]) (σ' := (mj_KS N, g2.2, mj_PP c d r)) 0 rfl trivial ?_
            refine R_br (q := (g2.1 : Int32) = 0) (t := 164) (f := 123) (rest := []) rfl (fun h7 => ?_) (fun h7 => ?_)
            · skip
              refine R_seg (φ := []) (pc' := 165) (L' := [.ref 42, .int e, w2]) (st' := [.int 0]) (σ' := (mj_KS N, g2.2, mj_PP c d r)) 1 rfl trivial ?_
              exact R_rb rfl rfl (Or.inl rfl) (mj_leaf (by simp only [s_X6_rC, hg1, hg2, if_neg h1, if_pos h4, if_pos h5, if_neg h6, if_pos h7, Bool.false_eq_true, ↓reduceIte, Nat.reduceAdd, Nat.reduceMul, mj_tn0, mj_tn1, mj_tn2, mj_tn3]) (by simp only [s_X6_rC, hg1, hg2, if_neg h1, if_pos h4, if_pos h5, if_neg h6, if_pos h7, Bool.false_eq_true, ↓reduceIte, Nat.reduceAdd, Nat.reduceMul, mj_tn0, mj_tn1, mj_tn2, mj_tn3]))
            · skip
              rw [show s_X6_rC e (k + 1) j  I = s_X6_rC e k (j + 1)  (g2.2) from by simp only [s_X6_rC, hg1, hg2, if_neg h1, if_pos h4, if_pos h5, if_neg h6, if_neg h7, Bool.false_eq_true, ↓reduceIte, Nat.reduceAdd, Nat.reduceMul, mj_tn0, mj_tn1, mj_tn2, mj_tn3]]
              exact ih (j + 1)  w2 (g2.2) (by omega) (by omega) (by omega) (t2.1) ((by omega)) (mj6_p1 t2.2 h7 p1)
        · skip
          refine R_seg (φ := []) (pc' := 171) (L' := [.ref 42, .int e, w2]) (st' := [.int e, .int (I 42 11)]) (σ' := (mj_KS N, I, mj_PP c d r)) 3 rfl trivial ?_
          refine R_br (q := (I 42 11 : Int32) = e) (t := 174) (f := 178) (rest := []) rfl (fun h8 => ?_) (fun h8 => ?_)
          · skip
            refine R_seg (φ := []) (pc' := 179) (L' := [.ref 42, .int e, w2]) (st' := [.int 1]) (σ' := (mj_KS N, I, mj_PP c d r)) 2 rfl trivial ?_
            exact R_rb rfl rfl (Or.inr rfl) (mj_leaf (by simp only [s_X6_rC, if_neg h1, if_pos h4, if_neg h5, if_pos h8, Bool.false_eq_true, ↓reduceIte, Nat.reduceAdd, Nat.reduceMul, mj_tn0, mj_tn1, mj_tn2, mj_tn3]) (by simp only [s_X6_rC, if_neg h1, if_pos h4, if_neg h5, if_pos h8, Bool.false_eq_true, ↓reduceIte, Nat.reduceAdd, Nat.reduceMul, mj_tn0, mj_tn1, mj_tn2, mj_tn3]))
          · skip
            refine R_seg (φ := []) (pc' := 179) (L' := [.ref 42, .int e, w2]) (st' := [.int 0]) (σ' := (mj_KS N, I, mj_PP c d r)) 1 rfl trivial ?_
            exact R_rb rfl rfl (Or.inl rfl) (mj_leaf (by simp only [s_X6_rC, if_neg h1, if_pos h4, if_neg h5, if_neg h8, Bool.false_eq_true, ↓reduceIte, Nat.reduceAdd, Nat.reduceMul, mj_tn0, mj_tn1, mj_tn2, mj_tn3]) (by simp only [s_X6_rC, if_neg h1, if_pos h4, if_neg h5, if_neg h8, Bool.false_eq_true, ↓reduceIte, Nat.reduceAdd, Nat.reduceMul, mj_tn0, mj_tn1, mj_tn2, mj_tn3]))
      · skip
        refine R_seg (φ := []) (pc' := 171) (L' := [.ref 42, .int e, w2]) (st' := [.int e, .int (I 42 11)]) (σ' := (mj_KS N, I, mj_PP c d r)) 3 rfl trivial ?_
        refine R_br (q := (I 42 11 : Int32) = e) (t := 174) (f := 178) (rest := []) rfl (fun h9 => ?_) (fun h9 => ?_)
        · skip
          refine R_seg (φ := []) (pc' := 179) (L' := [.ref 42, .int e, w2]) (st' := [.int 1]) (σ' := (mj_KS N, I, mj_PP c d r)) 2 rfl trivial ?_
          exact R_rb rfl rfl (Or.inr rfl) (mj_leaf (by simp only [s_X6_rC, if_neg h1, if_neg h4, if_pos h9, Bool.false_eq_true, ↓reduceIte, Nat.reduceAdd, Nat.reduceMul, mj_tn0, mj_tn1, mj_tn2, mj_tn3]) (by simp only [s_X6_rC, if_neg h1, if_neg h4, if_pos h9, Bool.false_eq_true, ↓reduceIte, Nat.reduceAdd, Nat.reduceMul, mj_tn0, mj_tn1, mj_tn2, mj_tn3]))
        · skip
          refine R_seg (φ := []) (pc' := 179) (L' := [.ref 42, .int e, w2]) (st' := [.int 0]) (σ' := (mj_KS N, I, mj_PP c d r)) 1 rfl trivial ?_
          exact R_rb rfl rfl (Or.inl rfl) (mj_leaf (by simp only [s_X6_rC, if_neg h1, if_neg h4, if_neg h9, Bool.false_eq_true, ↓reduceIte, Nat.reduceAdd, Nat.reduceMul, mj_tn0, mj_tn1, mj_tn2, mj_tn3]) (by simp only [s_X6_rC, if_neg h1, if_neg h4, if_neg h9, Bool.false_eq_true, ↓reduceIte, Nat.reduceAdd, Nat.reduceMul, mj_tn0, mj_tn1, mj_tn2, mj_tn3]))
def s_X6_rB (e : Int32) : Nat → Nat → mj_I → Int32 × mj_I
  | 0, j, I => ((s_X6_rC e 3 0  I).1, (s_X6_rC e 3 0  I).2)
  | k + 1, j, I => if (((s_X6_isSign e 45 I).1) : Int32) = 0 then ((s_X6_rC e 3 0  (((s_X6_isSign e 45 I).2))).1, (s_X6_rC e 3 0  (((s_X6_isSign e 45 I).2))).2) else (if (((s_X6_readCorner e (((s_X6_isSign e 45 I).2))).1) : Int32) = 0 then (0, ((s_X6_readCorner e (((s_X6_isSign e 45 I).2))).2)) else (s_X6_rB e k (j + 1)  (((s_X6_readCorner e (((s_X6_isSign e 45 I).2))).2))))
set_option maxHeartbeats 8000000 in
theorem x_X6_rB (l : Launch) (b base : Nat) (D : va_G) (z : mj_K × (Int32 → Int32)) (N : Nat) (e : Int32) (c d r : Nat) : ∀ (k j : Nat) (I : mj_I), k = 9 - j → 0 ≤ j → j ≤ 9 + 1 → (mj6_TS e I) → (I 42 13 = 0) → mj_Rn l b base D z mj_m_X6_readCity 91 [.ref 42, .int e, .int (nI j)] [] (mj_KS N, I, mj_PP c d r) (mj_E N (some (.int (s_X6_rB e k j  I).1)) (s_X6_rB e k j  I).2 (mj_PP c d r)) := by
  intro k
  induction k with
  | zero =>
    intro j I hk hlo hj hT hp
    refine R_seg (φ := []) (pc' := 94) (L' := [.ref 42, .int e, .int (nI j)]) (st' := [.int 9, .int (nI j)]) (σ' := (mj_KS N, I, mj_PP c d r)) 2 rfl trivial ?_
    refine R_br (q := (nI j : Int32) < 9) (t := 97) (f := 123) (rest := []) rfl (fun h1 => absurd h1 (show ¬ nI j < nI 9 from nI_nlt (by omega) (by omega))) (fun h1 => ?_)
    exact x_X6_rC l b base D z N e c d r  3 0  (.int (nI j)) I (by omega) (by omega) (by omega) hT.1 (by omega) hp
  | succ k ih =>
    intro j I hk hlo hj hT hp
    have hjm : j < 9 := by omega
    refine R_seg (φ := []) (pc' := 94) (L' := [.ref 42, .int e, .int (nI j)]) (st' := [.int 9, .int (nI j)]) (σ' := (mj_KS N, I, mj_PP c d r)) 2 rfl trivial ?_
    refine R_br (q := (nI j : Int32) < 9) (t := 97) (f := 123) (rest := []) rfl (fun h1 => ?_) (fun h1 => absurd (show nI j < nI 9 from nI_lt hjm (by omega)) h1)
    refine R_seg (φ := []) (pc' := 101) (L' := [.ref 42, .int e, .int (nI j)]) (st' := [.int 45, .int e, .ref 42]) (σ' := (mj_KS N, I, mj_PP c d r)) 3 rfl trivial ?_
    refine R_ce (idx := 123) (mid := 103) (kind := 0) (N := N) (M' := mj_m_X6_isSign) (As := [.ref 42, .int e, .int 45]) (rest := []) (I := I) (P := mj_PP c d r) (I' := (s_X6_isSign e 45 I).2) (P' := mj_PP c d r) (v := some (.int ((s_X6_isSign e 45 I).1))) rfl rfl rfl mj_mc103 mj_dc103 rfl rfl rfl rfl rfl rfl (x_X6_isSign l b base D z N e 45 I c d r (hT.1)) ?_
    have t1 : mj6_TS e (s_X6_isSign e 45 I).2 := mj6_sg_TS hT
    have p1 : (s_X6_isSign e 45 I).2 42 13 = 0 := (mj6_sg_42 _ _ _ _ (by decide)).trans hp
    generalize hg1 : (s_X6_isSign e 45 I) = g1 at t1 p1 ⊢
    refine R_seg (φ := []) (pc' := 104) (L' := [.ref 42, .int e, .int (nI j)]) (st' := [.int (g1.1)]) (σ' := (mj_KS N, g1.2, mj_PP c d r)) 0 rfl trivial ?_
    refine R_br (q := (g1.1 : Int32) = 0) (t := 123) (f := 107) (rest := []) rfl (fun h2 => ?_) (fun h2 => ?_)
    · skip
      simp only [s_X6_rB, hg1, if_pos h2, Bool.false_eq_true, ↓reduceIte, Nat.reduceAdd, Nat.reduceMul, mj_tn0, mj_tn1, mj_tn2, mj_tn3]
      exact x_X6_rC l b base D z N e c d r  3 0  (.int (nI j)) (g1.2) (by omega) (by omega) (by omega) t1.1 (by omega) p1
    · skip
      refine R_seg (φ := []) (pc' := 109) (L' := [.ref 42, .int e, .int (nI j)]) (st' := [.int e, .ref 42]) (σ' := (mj_KS N, g1.2, mj_PP c d r)) 2 rfl trivial ?_
      refine R_ce (idx := 131) (mid := 107) (kind := 0) (N := N) (M' := mj_m_X6_readCorner) (As := [.ref 42, .int e]) (rest := []) (I := g1.2) (P := mj_PP c d r) (I' := (s_X6_readCorner e (g1.2)).2) (P' := mj_PP c d r) (v := some (.int ((s_X6_readCorner e (g1.2)).1))) rfl rfl rfl mj_mc107 mj_dc107 rfl rfl rfl rfl rfl rfl (x_X6_readCorner l b base D z N e  (g1.2) c d r t1) ?_
      have t2 : mj6_TS e (s_X6_readCorner e (g1.2)).2 ∧ (s_X6_readCorner e (g1.2)).2 42 13 = g1.2 42 13 := mj6_rc_l t1
      generalize hg2 : (s_X6_readCorner e (g1.2)) = g2 at t2 ⊢
      refine R_seg (φ := []) (pc' := 112) (L' := [.ref 42, .int e, .int (nI j)]) (st' := [.int (g2.1)]) (σ' := (mj_KS N, g2.2, mj_PP c d r)) 0 rfl trivial ?_
      refine R_br (q := (g2.1 : Int32) = 0) (t := 115) (f := 117) (rest := []) rfl (fun h3 => ?_) (fun h3 => ?_)
      · skip
        refine R_seg (φ := []) (pc' := 116) (L' := [.ref 42, .int e, .int (nI j)]) (st' := [.int 0]) (σ' := (mj_KS N, g2.2, mj_PP c d r)) 1 rfl trivial ?_
        exact R_rb rfl rfl (Or.inl rfl) (mj_leaf (by simp only [s_X6_rB, hg1, hg2, if_neg h2, if_pos h3, Bool.false_eq_true, ↓reduceIte, Nat.reduceAdd, Nat.reduceMul, mj_tn0, mj_tn1, mj_tn2, mj_tn3]) (by simp only [s_X6_rB, hg1, hg2, if_neg h2, if_pos h3, Bool.false_eq_true, ↓reduceIte, Nat.reduceAdd, Nat.reduceMul, mj_tn0, mj_tn1, mj_tn2, mj_tn3]))
      · skip
        refine R_seg (φ := []) (pc' := 91) (L' := [.ref 42, .int e, .int ((nI j) + 1)]) (st' := []) (σ' := (mj_KS N, g2.2, mj_PP c d r)) 2 rfl trivial ?_
        rw [nI_1 j]
        rw [show s_X6_rB e (k + 1) j  I = s_X6_rB e k (j + 1)  (g2.2) from by simp only [s_X6_rB, hg1, hg2, if_neg h2, if_neg h3, Bool.false_eq_true, ↓reduceIte, Nat.reduceAdd, Nat.reduceMul, mj_tn0, mj_tn1, mj_tn2, mj_tn3]]
        exact ih (j + 1)  (g2.2) (by omega) (by omega) (by omega) (t2.1) ((t2.2.trans p1))
theorem mj6_eN {S : Int32} {j : Nat} (hS : S.toInt ≤ 6) (hj : 6 ≤ j) (h2 : j < 100) : ¬ nI j < S := by
  intro h
  have := mj_iL h
  rw [nI_toInt (by omega)] at this
  omega
def s_X6_rA (e : Int32) : Nat → Nat → mj_I → Int32 × mj_I
  | 0, j, I => ((s_X6_rB e 9 0  I).1, (s_X6_rB e 9 0  I).2)
  | k + 1, j, I => if (nI j : Int32) < I 42 12 then (if ((mj_upI (((s_X6_digit e 0 3 (mj_upI I 51 (nI j) 0)).2)) 50 (nI j) (((s_X6_digit e 0 3 (mj_upI I 51 (nI j) 0)).1))) 50 (nI j) : Int32) = (-9) then (0, (mj_upI (((s_X6_digit e 0 3 (mj_upI I 51 (nI j) 0)).2)) 50 (nI j) (((s_X6_digit e 0 3 (mj_upI I 51 (nI j) 0)).1)))) else (s_X6_rA e k (j + 1)  (mj_upI (((s_X6_digit e 0 3 (mj_upI I 51 (nI j) 0)).2)) 50 (nI j) (((s_X6_digit e 0 3 (mj_upI I 51 (nI j) 0)).1))))) else ((s_X6_rB e 9 0  I).1, (s_X6_rB e 9 0  I).2)
set_option maxHeartbeats 8000000 in
theorem x_X6_rA (l : Launch) (b base : Nat) (D : va_G) (z : mj_K × (Int32 → Int32)) (N : Nat) (e : Int32) (c d r : Nat) : ∀ (k j : Nat) (I : mj_I), k = 6 - j → 0 ≤ j → j ≤ 6 + 1 → (mj6_TS e I) → (I 42 13 = 0) → mj_Rn l b base D z mj_m_X6_readCity 42 [.ref 42, .int e, .int (nI j)] [] (mj_KS N, I, mj_PP c d r) (mj_E N (some (.int (s_X6_rA e k j  I).1)) (s_X6_rA e k j  I).2 (mj_PP c d r)) := by
  intro k
  induction k with
  | zero =>
    intro j I hk hlo hj hT hp
    refine R_seg (φ := []) (pc' := 47) (L' := [.ref 42, .int e, .int (nI j)]) (st' := [.int (I 42 12), .int (nI j)]) (σ' := (mj_KS N, I, mj_PP c d r)) 3 rfl trivial ?_
    refine R_br (q := (nI j : Int32) < I 42 12) (t := 50) (f := 89) (rest := []) rfl (fun h1 => absurd h1 (mj6_eN hT.2.2 (by omega) (by omega))) (fun h1 => ?_)
    refine R_seg (φ := []) (pc' := 91) (L' := [.ref 42, .int e, .int 0]) (st' := []) (σ' := (mj_KS N, I, mj_PP c d r)) 2 rfl trivial ?_
    exact x_X6_rB l b base D z N e c d r  9 0  I (by omega) (by omega) (by omega) hT hp
  | succ k ih =>
    intro j I hk hlo hj hT hp
    have hjm : j < 6 := by omega
    refine R_seg (φ := []) (pc' := 47) (L' := [.ref 42, .int e, .int (nI j)]) (st' := [.int (I 42 12), .int (nI j)]) (σ' := (mj_KS N, I, mj_PP c d r)) 3 rfl trivial ?_
    refine R_br (q := (nI j : Int32) < I 42 12) (t := 50) (f := 89) (rest := []) rfl (fun h1 => ?_) (fun h1 => ?_)
    · skip
      refine R_seg (φ := [mj_in (nI j) 6]) (pc' := 66) (L' := [.ref 42, .int e, .int (nI j)]) (st' := [.int 3, .int 0, .int e, .ref 42, .int (nI j), .ref 50]) (σ' := (mj_KS N, (mj_upI I 51 (nI j) 0), mj_PP c d r)) 12 rfl ⟨mj_in_nI hjm (by decide), trivial⟩ ?_
      refine R_ce (idx := 127) (mid := 102) (kind := 0) (N := N) (M' := mj_m_X6_digit) (As := [.ref 42, .int e, .int 0, .int 3]) (rest := [.int (nI j), .ref 50]) (I := (mj_upI I 51 (nI j) 0)) (P := mj_PP c d r) (I' := (s_X6_digit e 0 3 (mj_upI I 51 (nI j) 0)).2) (P' := mj_PP c d r) (v := some (.int ((s_X6_digit e 0 3 (mj_upI I 51 (nI j) 0)).1))) rfl rfl rfl mj_mc102 mj_dc102 rfl rfl rfl rfl rfl rfl (x_X6_digit l b base D z N e 0 3 (mj_upI I 51 (nI j) 0) c d r ((mj6_TS_up hT (by decide)).1)) ?_
      have t1 : mj6_TS e (s_X6_digit e 0 3 (mj_upI I 51 (nI j) 0)).2 := mj6_dg_TS (mj6_TS_up hT (by decide))
      have p1 : (s_X6_digit e 0 3 (mj_upI I 51 (nI j) 0)).2 42 13 = 0 := (mj6_dg_42 _ _ _ _ _ (by decide)).trans hp
      generalize hg1 : (s_X6_digit e 0 3 (mj_upI I 51 (nI j) 0)) = g1 at t1 p1 ⊢
      refine R_seg (φ := [mj_in (nI j) 6, mj_in (nI j) 6]) (pc' := 78) (L' := [.ref 42, .int e, .int (nI j)]) (st' := [.int (-9), .int ((mj_upI (g1.2) 50 (nI j) (g1.1)) 50 (nI j))]) (σ' := (mj_KS N, (mj_upI (g1.2) 50 (nI j) (g1.1)), mj_PP c d r)) 6 rfl ⟨mj_in_nI hjm (by decide), mj_in_nI hjm (by decide), trivial⟩ ?_
      refine R_br (q := ((mj_upI (g1.2) 50 (nI j) (g1.1)) 50 (nI j) : Int32) = (-9)) (t := 81) (f := 83) (rest := []) rfl (fun h2 => ?_) (fun h2 => ?_)
      · skip
        refine R_seg (φ := []) (pc' := 82) (L' := [.ref 42, .int e, .int (nI j)]) (st' := [.int 0]) (σ' := (mj_KS N, (mj_upI (g1.2) 50 (nI j) (g1.1)), mj_PP c d r)) 1 rfl trivial ?_
        exact R_rb rfl rfl (Or.inl rfl) (mj_leaf (by simp only [s_X6_rA, hg1, if_pos h1, if_pos h2, Bool.false_eq_true, ↓reduceIte, Nat.reduceAdd, Nat.reduceMul, mj_tn0, mj_tn1, mj_tn2, mj_tn3]) (by simp only [s_X6_rA, hg1, if_pos h1, if_pos h2, Bool.false_eq_true, ↓reduceIte, Nat.reduceAdd, Nat.reduceMul, mj_tn0, mj_tn1, mj_tn2, mj_tn3]))
      · skip
        refine R_seg (φ := []) (pc' := 42) (L' := [.ref 42, .int e, .int ((nI j) + 1)]) (st' := []) (σ' := (mj_KS N, (mj_upI (g1.2) 50 (nI j) (g1.1)), mj_PP c d r)) 2 rfl trivial ?_
        rw [nI_1 j]
        rw [show s_X6_rA e (k + 1) j  I = s_X6_rA e k (j + 1)  (mj_upI (g1.2) 50 (nI j) (g1.1)) from by simp only [s_X6_rA, hg1, if_pos h1, if_neg h2, Bool.false_eq_true, ↓reduceIte, Nat.reduceAdd, Nat.reduceMul, mj_tn0, mj_tn1, mj_tn2, mj_tn3]]
        exact ih (j + 1)  (mj_upI (g1.2) 50 (nI j) (g1.1)) (by omega) (by omega) (by omega) (mj6_TS_up t1 (by decide)) (p1)
    · skip
      refine R_seg (φ := []) (pc' := 91) (L' := [.ref 42, .int e, .int 0]) (st' := []) (σ' := (mj_KS N, I, mj_PP c d r)) 2 rfl trivial ?_
      simp only [s_X6_rA, if_neg h1, Bool.false_eq_true, ↓reduceIte, Nat.reduceAdd, Nat.reduceMul, mj_tn0, mj_tn1, mj_tn2, mj_tn3]
      exact x_X6_rB l b base D z N e c d r  9 0  I (by omega) (by omega) (by omega) hT hp
theorem mj6_T_12 {e v : Int32} {I : mj_I} (h : mj6_T e I) (hv : 2 ≤ v.toInt ∧ v.toInt ≤ 6) : mj6_TS e (mj_upI I 42 12 v) := by
  obtain ⟨a, b⟩ := h
  refine ⟨⟨by rw [mj_upI_eq, if_neg (by decide)]; exact a, b⟩, ?_⟩
  rw [mj_upI_eq, if_pos rfl]
  exact hv
def s_X6_readCity (e : Int32) (I : mj_I) : Int32 × mj_I := if (((s_X6_isSign e 121 (mj_upI I 42 13 0)).1) : Int32) = 0 then (0, ((s_X6_isSign e 121 (mj_upI I 42 13 0)).2)) else (if (((s_X6_digit e 2 6 (((s_X6_isSign e 121 (mj_upI I 42 13 0)).2))).1) : Int32) = (-9) then (0, (mj_upI (((s_X6_digit e 2 6 (((s_X6_isSign e 121 (mj_upI I 42 13 0)).2))).2)) 42 12 (((s_X6_digit e 2 6 (((s_X6_isSign e 121 (mj_upI I 42 13 0)).2))).1)))) else ((s_X6_rA e 6 0  (mj_upI (((s_X6_digit e 2 6 (((s_X6_isSign e 121 (mj_upI I 42 13 0)).2))).2)) 42 12 (((s_X6_digit e 2 6 (((s_X6_isSign e 121 (mj_upI I 42 13 0)).2))).1)))).1, (s_X6_rA e 6 0  (mj_upI (((s_X6_digit e 2 6 (((s_X6_isSign e 121 (mj_upI I 42 13 0)).2))).2)) 42 12 (((s_X6_digit e 2 6 (((s_X6_isSign e 121 (mj_upI I 42 13 0)).2))).1)))).2))
set_option maxHeartbeats 8000000 in
theorem x_X6_readCity (l : Launch) (b base : Nat) (D : va_G) (z : mj_K × (Int32 → Int32)) (N : Nat) (e : Int32) (I : mj_I) (c d r : Nat) (hT : mj6_T e I) : mj_Rn l b base D z mj_m_X6_readCity 0 [.ref 42, .int e, mj_mk] [] (mj_KS N, I, mj_PP c d r) (mj_E N (some (.int (s_X6_readCity e I).1)) (s_X6_readCity e I).2 (mj_PP c d r)) := by
  refine R_seg (φ := []) (pc' := 9) (L' := [.ref 42, .int e, mj_mk]) (st' := [.int 121, .int e, .ref 42]) (σ' := (mj_KS N, (mj_upI I 42 13 0), mj_PP c d r)) 6 rfl trivial ?_
  refine R_ce (idx := 123) (mid := 103) (kind := 0) (N := N) (M' := mj_m_X6_isSign) (As := [.ref 42, .int e, .int 121]) (rest := []) (I := (mj_upI I 42 13 0)) (P := mj_PP c d r) (I' := (s_X6_isSign e 121 (mj_upI I 42 13 0)).2) (P' := mj_PP c d r) (v := some (.int ((s_X6_isSign e 121 (mj_upI I 42 13 0)).1))) rfl rfl rfl mj_mc103 mj_dc103 rfl rfl rfl rfl rfl rfl (x_X6_isSign l b base D z N e 121 (mj_upI I 42 13 0) c d r ((mj6_T_13 hT))) ?_
  have t1 : mj6_T e (s_X6_isSign e 121 (mj_upI I 42 13 0)).2 := mj6_sg_T (mj6_T_13 hT)
  have p1 : (s_X6_isSign e 121 (mj_upI I 42 13 0)).2 42 13 = 0 := (mj6_sg_42 _ _ _ _ (by decide))
  generalize hg1 : (s_X6_isSign e 121 (mj_upI I 42 13 0)) = g1 at t1 p1 ⊢
  refine R_seg (φ := []) (pc' := 12) (L' := [.ref 42, .int e, mj_mk]) (st' := [.int (g1.1)]) (σ' := (mj_KS N, g1.2, mj_PP c d r)) 0 rfl trivial ?_
  refine R_br (q := (g1.1 : Int32) = 0) (t := 15) (f := 17) (rest := []) rfl (fun h1 => ?_) (fun h1 => ?_)
  · skip
    refine R_seg (φ := []) (pc' := 16) (L' := [.ref 42, .int e, mj_mk]) (st' := [.int 0]) (σ' := (mj_KS N, g1.2, mj_PP c d r)) 1 rfl trivial ?_
    exact R_rb rfl rfl (Or.inl rfl) (mj_leaf (by simp only [s_X6_readCity, hg1, if_pos h1, Bool.false_eq_true, ↓reduceIte, Nat.reduceAdd, Nat.reduceMul, mj_tn0, mj_tn1, mj_tn2, mj_tn3]) (by simp only [s_X6_readCity, hg1, if_pos h1, Bool.false_eq_true, ↓reduceIte, Nat.reduceAdd, Nat.reduceMul, mj_tn0, mj_tn1, mj_tn2, mj_tn3]))
  · skip
    refine R_seg (φ := []) (pc' := 23) (L' := [.ref 42, .int e, mj_mk]) (st' := [.int 6, .int 2, .int e, .ref 42, .ref 42]) (σ' := (mj_KS N, g1.2, mj_PP c d r)) 5 rfl trivial ?_
    refine R_ce (idx := 127) (mid := 102) (kind := 0) (N := N) (M' := mj_m_X6_digit) (As := [.ref 42, .int e, .int 2, .int 6]) (rest := [.ref 42]) (I := g1.2) (P := mj_PP c d r) (I' := (s_X6_digit e 2 6 (g1.2)).2) (P' := mj_PP c d r) (v := some (.int ((s_X6_digit e 2 6 (g1.2)).1))) rfl rfl rfl mj_mc102 mj_dc102 rfl rfl rfl rfl rfl rfl (x_X6_digit l b base D z N e 2 6 (g1.2) c d r (t1)) ?_
    have t2 : mj6_T e (s_X6_digit e 2 6 (g1.2)).2 := mj6_dg_T t1
    have p2 : (s_X6_digit e 2 6 (g1.2)).2 42 13 = 0 := (mj6_dg_42 _ _ _ _ _ (by decide)).trans p1
    have v2 : ¬ (s_X6_digit e 2 6 (g1.2)).1 = -9 → 2 ≤ (s_X6_digit e 2 6 (g1.2)).1.toInt ∧ (s_X6_digit e 2 6 (g1.2)).1.toInt ≤ 6 := fun h => mj6_dg_v h (by decide) (by decide)
    generalize hg2 : (s_X6_digit e 2 6 (g1.2)) = g2 at t2 p2 v2 ⊢
    refine R_seg (φ := []) (pc' := 35) (L' := [.ref 42, .int e, mj_mk]) (st' := [.int (-9), .int (g2.1)]) (σ' := (mj_KS N, (mj_upI (g2.2) 42 12 (g2.1)), mj_PP c d r)) 4 rfl trivial ?_
    refine R_br (q := (g2.1 : Int32) = (-9)) (t := 38) (f := 40) (rest := []) rfl (fun h2 => ?_) (fun h2 => ?_)
    · skip
      refine R_seg (φ := []) (pc' := 39) (L' := [.ref 42, .int e, mj_mk]) (st' := [.int 0]) (σ' := (mj_KS N, (mj_upI (g2.2) 42 12 (g2.1)), mj_PP c d r)) 1 rfl trivial ?_
      exact R_rb rfl rfl (Or.inl rfl) (mj_leaf (by simp only [s_X6_readCity, hg1, hg2, if_neg h1, if_pos h2, Bool.false_eq_true, ↓reduceIte, Nat.reduceAdd, Nat.reduceMul, mj_tn0, mj_tn1, mj_tn2, mj_tn3]) (by simp only [s_X6_readCity, hg1, hg2, if_neg h1, if_pos h2, Bool.false_eq_true, ↓reduceIte, Nat.reduceAdd, Nat.reduceMul, mj_tn0, mj_tn1, mj_tn2, mj_tn3]))
    · skip
      refine R_seg (φ := []) (pc' := 42) (L' := [.ref 42, .int e, .int 0]) (st' := []) (σ' := (mj_KS N, (mj_upI (g2.2) 42 12 (g2.1)), mj_PP c d r)) 2 rfl trivial ?_
      simp only [s_X6_readCity, hg1, hg2, if_neg h1, if_neg h2, Bool.false_eq_true, ↓reduceIte, Nat.reduceAdd, Nat.reduceMul, mj_tn0, mj_tn1, mj_tn2, mj_tn3]
      exact x_X6_rA l b base D z N e c d r  6 0  (mj_upI (g2.2) 42 12 (g2.1)) (by omega) (by omega) (by omega) (mj6_T_12 t2 (v2 h2)) p2
