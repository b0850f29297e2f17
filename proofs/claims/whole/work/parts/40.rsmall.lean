/-! the reference: small methods -/
def s_X6_within (v : Int32) (e : Int32) (f : Int32) (I : mj_I) : Int32 := if (v : Int32) < e then 0 else (if (f : Int32) < v then 0 else 1)
set_option maxHeartbeats 8000000 in
theorem x_X6_within (l : Launch) (b base : Nat) (D : va_G) (z : mj_K × (Int32 → Int32)) (N : Nat) (v : Int32) (e : Int32) (f : Int32) (I : mj_I) (c d r : Nat) : mj_Rn l b base D z mj_m_X6_within 0 [.int v, .int e, .int f] [] (mj_KS N, I, mj_PP c d r) (mj_E N (some (.int (s_X6_within v e f I))) I (mj_PP c d r)) := by
  refine R_seg (φ := []) (pc' := 2) (L' := [.int v, .int e, .int f]) (st' := [.int e, .int v]) (σ' := (mj_KS N, I, mj_PP c d r)) 2 rfl trivial ?_
  refine R_br (q := (v : Int32) < e) (t := 14) (f := 5) (rest := []) rfl (fun h1 => ?_) (fun h1 => ?_)
  · skip
    refine R_seg (φ := []) (pc' := 15) (L' := [.int v, .int e, .int f]) (st' := [.int 0]) (σ' := (mj_KS N, I, mj_PP c d r)) 1 rfl trivial ?_
    exact R_rb rfl rfl (Or.inl rfl) (mj_leaf (by simp only [s_X6_within, if_pos h1, Bool.false_eq_true, ↓reduceIte, Nat.reduceAdd, Nat.reduceMul, mj_tn0, mj_tn1, mj_tn2, mj_tn3]) (by simp only [s_X6_within, if_pos h1, Bool.false_eq_true, ↓reduceIte, Nat.reduceAdd, Nat.reduceMul, mj_tn0, mj_tn1, mj_tn2, mj_tn3]))
  · skip
    refine R_seg (φ := []) (pc' := 7) (L' := [.int v, .int e, .int f]) (st' := [.int f, .int v]) (σ' := (mj_KS N, I, mj_PP c d r)) 2 rfl trivial ?_
    refine R_br (q := (f : Int32) < v) (t := 14) (f := 10) (rest := []) rfl (fun h2 => ?_) (fun h2 => ?_)
    · skip
      refine R_seg (φ := []) (pc' := 15) (L' := [.int v, .int e, .int f]) (st' := [.int 0]) (σ' := (mj_KS N, I, mj_PP c d r)) 1 rfl trivial ?_
      exact R_rb rfl rfl (Or.inl rfl) (mj_leaf (by simp only [s_X6_within, if_neg h1, if_pos h2, Bool.false_eq_true, ↓reduceIte, Nat.reduceAdd, Nat.reduceMul, mj_tn0, mj_tn1, mj_tn2, mj_tn3]) (by simp only [s_X6_within, if_neg h1, if_pos h2, Bool.false_eq_true, ↓reduceIte, Nat.reduceAdd, Nat.reduceMul, mj_tn0, mj_tn1, mj_tn2, mj_tn3]))
    · skip
      refine R_seg (φ := []) (pc' := 15) (L' := [.int v, .int e, .int f]) (st' := [.int 1]) (σ' := (mj_KS N, I, mj_PP c d r)) 2 rfl trivial ?_
      exact R_rb rfl rfl (Or.inr rfl) (mj_leaf (by simp only [s_X6_within, if_neg h1, if_neg h2, Bool.false_eq_true, ↓reduceIte, Nat.reduceAdd, Nat.reduceMul, mj_tn0, mj_tn1, mj_tn2, mj_tn3]) (by simp only [s_X6_within, if_neg h1, if_neg h2, Bool.false_eq_true, ↓reduceIte, Nat.reduceAdd, Nat.reduceMul, mj_tn0, mj_tn1, mj_tn2, mj_tn3]))
theorem mj6_w01 (v e f : Int32) (I : mj_I) : s_X6_within v e f I = 0 ∨ s_X6_within v e f I = 1 := by
  unfold s_X6_within
  repeat' split
  all_goals first
    | exact Or.inl rfl
    | exact Or.inr rfl
def s_X6_isSheet (k : Int32) (I : mj_I) : Int32 := (s_X6_within k 0 3 I)
set_option maxHeartbeats 8000000 in
theorem x_X6_isSheet (l : Launch) (b base : Nat) (D : va_G) (z : mj_K × (Int32 → Int32)) (N : Nat) (k : Int32) (I : mj_I) (c d r : Nat) : mj_Rn l b base D z mj_m_X6_isSheet 0 [.int k] [] (mj_KS N, I, mj_PP c d r) (mj_E N (some (.int (s_X6_isSheet k I))) I (mj_PP c d r)) := by
  refine R_seg (φ := []) (pc' := 3) (L' := [.int k]) (st' := [.int 3, .int 0, .int k]) (σ' := (mj_KS N, I, mj_PP c d r)) 3 rfl trivial ?_
  refine R_ce (idx := 76) (mid := 95) (kind := 1) (N := N) (M' := mj_m_X6_within) (As := [.int k, .int 0, .int 3]) (rest := []) (I := I) (P := mj_PP c d r) (I' := I) (P' := mj_PP c d r) (v := some (.int (s_X6_within k 0 3 I))) rfl rfl rfl mj_mc95 mj_dc95 rfl rfl rfl rfl rfl rfl (x_X6_within l b base D z N k 0 3 I c d r) ?_
  refine R_seg (φ := []) (pc' := 6) (L' := [.int k]) (st' := [.int (s_X6_within k 0 3 I)]) (σ' := (mj_KS N, I, mj_PP c d r)) 0 rfl trivial ?_
  exact R_rb rfl rfl (mj6_w01 _ _ _ _) (mj_leaf (by simp only [s_X6_isSheet, Bool.false_eq_true, ↓reduceIte, Nat.reduceAdd, Nat.reduceMul, mj_tn0, mj_tn1, mj_tn2, mj_tn3]) (by simp only [s_X6_isSheet, Bool.false_eq_true, ↓reduceIte, Nat.reduceAdd, Nat.reduceMul, mj_tn0, mj_tn1, mj_tn2, mj_tn3]))
def s_X6_isSort (k : Int32) (I : mj_I) : Int32 := (s_X6_within k 0 2 I)
set_option maxHeartbeats 8000000 in
theorem x_X6_isSort (l : Launch) (b base : Nat) (D : va_G) (z : mj_K × (Int32 → Int32)) (N : Nat) (k : Int32) (I : mj_I) (c d r : Nat) : mj_Rn l b base D z mj_m_X6_isSort 0 [.int k] [] (mj_KS N, I, mj_PP c d r) (mj_E N (some (.int (s_X6_isSort k I))) I (mj_PP c d r)) := by
  refine R_seg (φ := []) (pc' := 3) (L' := [.int k]) (st' := [.int 2, .int 0, .int k]) (σ' := (mj_KS N, I, mj_PP c d r)) 3 rfl trivial ?_
  refine R_ce (idx := 76) (mid := 95) (kind := 1) (N := N) (M' := mj_m_X6_within) (As := [.int k, .int 0, .int 2]) (rest := []) (I := I) (P := mj_PP c d r) (I' := I) (P' := mj_PP c d r) (v := some (.int (s_X6_within k 0 2 I))) rfl rfl rfl mj_mc95 mj_dc95 rfl rfl rfl rfl rfl rfl (x_X6_within l b base D z N k 0 2 I c d r) ?_
  refine R_seg (φ := []) (pc' := 6) (L' := [.int k]) (st' := [.int (s_X6_within k 0 2 I)]) (σ' := (mj_KS N, I, mj_PP c d r)) 0 rfl trivial ?_
  exact R_rb rfl rfl (mj6_w01 _ _ _ _) (mj_leaf (by simp only [s_X6_isSort, Bool.false_eq_true, ↓reduceIte, Nat.reduceAdd, Nat.reduceMul, mj_tn0, mj_tn1, mj_tn2, mj_tn3]) (by simp only [s_X6_isSort, Bool.false_eq_true, ↓reduceIte, Nat.reduceAdd, Nat.reduceMul, mj_tn0, mj_tn1, mj_tn2, mj_tn3]))
def s_X6_isSeason (k : Int32) (I : mj_I) : Int32 := (s_X6_within k 0 3 I)
set_option maxHeartbeats 8000000 in
theorem x_X6_isSeason (l : Launch) (b base : Nat) (D : va_G) (z : mj_K × (Int32 → Int32)) (N : Nat) (k : Int32) (I : mj_I) (c d r : Nat) : mj_Rn l b base D z mj_m_X6_isSeason 0 [.int k] [] (mj_KS N, I, mj_PP c d r) (mj_E N (some (.int (s_X6_isSeason k I))) I (mj_PP c d r)) := by
  refine R_seg (φ := []) (pc' := 3) (L' := [.int k]) (st' := [.int 3, .int 0, .int k]) (σ' := (mj_KS N, I, mj_PP c d r)) 3 rfl trivial ?_
  refine R_ce (idx := 76) (mid := 95) (kind := 1) (N := N) (M' := mj_m_X6_within) (As := [.int k, .int 0, .int 3]) (rest := []) (I := I) (P := mj_PP c d r) (I' := I) (P' := mj_PP c d r) (v := some (.int (s_X6_within k 0 3 I))) rfl rfl rfl mj_mc95 mj_dc95 rfl rfl rfl rfl rfl rfl (x_X6_within l b base D z N k 0 3 I c d r) ?_
  refine R_seg (φ := []) (pc' := 6) (L' := [.int k]) (st' := [.int (s_X6_within k 0 3 I)]) (σ' := (mj_KS N, I, mj_PP c d r)) 0 rfl trivial ?_
  exact R_rb rfl rfl (mj6_w01 _ _ _ _) (mj_leaf (by simp only [s_X6_isSeason, Bool.false_eq_true, ↓reduceIte, Nat.reduceAdd, Nat.reduceMul, mj_tn0, mj_tn1, mj_tn2, mj_tn3]) (by simp only [s_X6_isSeason, Bool.false_eq_true, ↓reduceIte, Nat.reduceAdd, Nat.reduceMul, mj_tn0, mj_tn1, mj_tn2, mj_tn3]))
def s_X6_isRow (k : Int32) (n : Int32) (I : mj_I) : Int32 := if ((s_X6_isSort k I) : Int32) = 0 then 0 else (if ((s_X6_within n 0 24 I) : Int32) = 0 then 0 else 1)
set_option maxHeartbeats 8000000 in
theorem x_X6_isRow (l : Launch) (b base : Nat) (D : va_G) (z : mj_K × (Int32 → Int32)) (N : Nat) (k : Int32) (n : Int32) (I : mj_I) (c d r : Nat) : mj_Rn l b base D z mj_m_X6_isRow 0 [.int k, .int n] [] (mj_KS N, I, mj_PP c d r) (mj_E N (some (.int (s_X6_isRow k n I))) I (mj_PP c d r)) := by
  refine R_seg (φ := []) (pc' := 1) (L' := [.int k, .int n]) (st' := [.int k]) (σ' := (mj_KS N, I, mj_PP c d r)) 1 rfl trivial ?_
  refine R_ce (idx := 93) (mid := 97) (kind := 1) (N := N) (M' := mj_m_X6_isSort) (As := [.int k]) (rest := []) (I := I) (P := mj_PP c d r) (I' := I) (P' := mj_PP c d r) (v := some (.int (s_X6_isSort k I))) rfl rfl rfl mj_mc97 mj_dc97 rfl rfl rfl rfl rfl rfl (x_X6_isSort l b base D z N k I c d r) ?_
  refine R_seg (φ := []) (pc' := 4) (L' := [.int k, .int n]) (st' := [.int (s_X6_isSort k I)]) (σ' := (mj_KS N, I, mj_PP c d r)) 0 rfl trivial ?_
  refine R_br (q := ((s_X6_isSort k I) : Int32) = 0) (t := 21) (f := 7) (rest := []) rfl (fun h1 => ?_) (fun h1 => ?_)
  · skip
    refine R_seg (φ := []) (pc' := 22) (L' := [.int k, .int n]) (st' := [.int 0]) (σ' := (mj_KS N, I, mj_PP c d r)) 1 rfl trivial ?_
    exact R_rb rfl rfl (Or.inl rfl) (mj_leaf (by simp only [s_X6_isRow, if_pos h1, Bool.false_eq_true, ↓reduceIte, Nat.reduceAdd, Nat.reduceMul, mj_tn0, mj_tn1, mj_tn2, mj_tn3]) (by simp only [s_X6_isRow, if_pos h1, Bool.false_eq_true, ↓reduceIte, Nat.reduceAdd, Nat.reduceMul, mj_tn0, mj_tn1, mj_tn2, mj_tn3]))
  · skip
    refine R_seg (φ := []) (pc' := 11) (L' := [.int k, .int n]) (st' := [.int 24, .int 0, .int n]) (σ' := (mj_KS N, I, mj_PP c d r)) 3 rfl trivial ?_
    refine R_ce (idx := 76) (mid := 95) (kind := 1) (N := N) (M' := mj_m_X6_within) (As := [.int n, .int 0, .int 24]) (rest := []) (I := I) (P := mj_PP c d r) (I' := I) (P' := mj_PP c d r) (v := some (.int (s_X6_within n 0 24 I))) rfl rfl rfl mj_mc95 mj_dc95 rfl rfl rfl rfl rfl rfl (x_X6_within l b base D z N n 0 24 I c d r) ?_
    refine R_seg (φ := []) (pc' := 14) (L' := [.int k, .int n]) (st' := [.int (s_X6_within n 0 24 I)]) (σ' := (mj_KS N, I, mj_PP c d r)) 0 rfl trivial ?_
    refine R_br (q := ((s_X6_within n 0 24 I) : Int32) = 0) (t := 21) (f := 17) (rest := []) rfl (fun h2 => ?_) (fun h2 => ?_)
    · skip
      refine R_seg (φ := []) (pc' := 22) (L' := [.int k, .int n]) (st' := [.int 0]) (σ' := (mj_KS N, I, mj_PP c d r)) 1 rfl trivial ?_
      exact R_rb rfl rfl (Or.inl rfl) (mj_leaf (by simp only [s_X6_isRow, if_neg h1, if_pos h2, Bool.false_eq_true, ↓reduceIte, Nat.reduceAdd, Nat.reduceMul, mj_tn0, mj_tn1, mj_tn2, mj_tn3]) (by simp only [s_X6_isRow, if_neg h1, if_pos h2, Bool.false_eq_true, ↓reduceIte, Nat.reduceAdd, Nat.reduceMul, mj_tn0, mj_tn1, mj_tn2, mj_tn3]))
    · skip
      refine R_seg (φ := []) (pc' := 22) (L' := [.int k, .int n]) (st' := [.int 1]) (σ' := (mj_KS N, I, mj_PP c d r)) 2 rfl trivial ?_
      exact R_rb rfl rfl (Or.inr rfl) (mj_leaf (by simp only [s_X6_isRow, if_neg h1, if_neg h2, Bool.false_eq_true, ↓reduceIte, Nat.reduceAdd, Nat.reduceMul, mj_tn0, mj_tn1, mj_tn2, mj_tn3]) (by simp only [s_X6_isRow, if_neg h1, if_neg h2, Bool.false_eq_true, ↓reduceIte, Nat.reduceAdd, Nat.reduceMul, mj_tn0, mj_tn1, mj_tn2, mj_tn3]))
def s_X6_fails (v : Int32) (I : mj_I) : Int32 × mj_I := ((-10) - v, (mj_upI I 42 0 v))
set_option maxHeartbeats 8000000 in
theorem x_X6_fails (l : Launch) (b base : Nat) (D : va_G) (z : mj_K × (Int32 → Int32)) (N : Nat) (v : Int32) (I : mj_I) (c d r : Nat) : mj_Rn l b base D z mj_m_X6_fails 0 [.ref 42, .int v] [] (mj_KS N, I, mj_PP c d r) (mj_E N (some (.int (s_X6_fails v I).1)) (s_X6_fails v I).2 (mj_PP c d r)) := by
  refine R_seg (φ := []) (pc' := 9) (L' := [.ref 42, .int v]) (st' := [.int ((-10) - v)]) (σ' := (mj_KS N, (mj_upI I 42 0 v), mj_PP c d r)) 6 rfl trivial ?_
  exact R_ri rfl rfl (mj_leaf (by simp only [s_X6_fails, Bool.false_eq_true, ↓reduceIte, Nat.reduceAdd, Nat.reduceMul, mj_tn0, mj_tn1, mj_tn2, mj_tn3]) (by simp only [s_X6_fails, Bool.false_eq_true, ↓reduceIte, Nat.reduceAdd, Nat.reduceMul, mj_tn0, mj_tn1, mj_tn2, mj_tn3]))
def s_X6_lost (v : Int32) (I : mj_I) : Int64 × mj_I := ((-9223372036854775808), (mj_upI I 42 0 v))
set_option maxHeartbeats 8000000 in
theorem x_X6_lost (l : Launch) (b base : Nat) (D : va_G) (z : mj_K × (Int32 → Int32)) (N : Nat) (v : Int32) (I : mj_I) (c d r : Nat) : mj_Rn l b base D z mj_m_X6_lost 0 [.ref 42, .int v] [] (mj_KS N, I, mj_PP c d r) (mj_E N (some (.long (s_X6_lost v I).1)) (s_X6_lost v I).2 (mj_PP c d r)) := by
  refine R_seg (φ := []) (pc' := 8) (L' := [.ref 42, .int v]) (st' := [.long (-9223372036854775808)]) (σ' := (mj_KS N, (mj_upI I 42 0 v), mj_PP c d r)) 4 rfl trivial ?_
  exact R_rl rfl rfl (mj_leaf (by simp only [s_X6_lost, Bool.false_eq_true, ↓reduceIte, Nat.reduceAdd, Nat.reduceMul, mj_tn0, mj_tn1, mj_tn2, mj_tn3]) (by simp only [s_X6_lost, Bool.false_eq_true, ↓reduceIte, Nat.reduceAdd, Nat.reduceMul, mj_tn0, mj_tn1, mj_tn2, mj_tn3]))
def s_X6_begins (v : Int32) (I : mj_I) : mj_I := (mj_upI I 42 1 ((31 * (I 42 1)) + v))
set_option maxHeartbeats 8000000 in
theorem x_X6_begins (l : Launch) (b base : Nat) (D : va_G) (z : mj_K × (Int32 → Int32)) (N : Nat) (v : Int32) (I : mj_I) (c d r : Nat) : mj_Rn l b base D z mj_m_X6_begins 0 [.ref 42, .int v] [] (mj_KS N, I, mj_PP c d r) (mj_E N none (s_X6_begins v I) (mj_PP c d r)) := by
  refine R_seg (φ := []) (pc' := 13) (L' := [.ref 42, .int v]) (st' := []) (σ' := (mj_KS N, (mj_upI I 42 1 ((31 * (I 42 1)) + v)), mj_PP c d r)) 8 rfl trivial ?_
  exact R_rv rfl rfl (mj_leaf (by simp only [s_X6_begins, Bool.false_eq_true, ↓reduceIte, Nat.reduceAdd, Nat.reduceMul, mj_tn0, mj_tn1, mj_tn2, mj_tn3]) (by simp only [s_X6_begins, Bool.false_eq_true, ↓reduceIte, Nat.reduceAdd, Nat.reduceMul, mj_tn0, mj_tn1, mj_tn2, mj_tn3]))
def s_X6_trace (I : mj_I) : Int32 := I 42 1
set_option maxHeartbeats 8000000 in
theorem x_X6_trace (l : Launch) (b base : Nat) (D : va_G) (z : mj_K × (Int32 → Int32)) (N : Nat) (I : mj_I) (c d r : Nat) : mj_Rn l b base D z mj_m_X6_trace 0 [.ref 42] [] (mj_KS N, I, mj_PP c d r) (mj_E N (some (.int (s_X6_trace  I))) I (mj_PP c d r)) := by
  refine R_seg (φ := []) (pc' := 4) (L' := [.ref 42]) (st' := [.int (I 42 1)]) (σ' := (mj_KS N, I, mj_PP c d r)) 2 rfl trivial ?_
  exact R_ri rfl rfl (mj_leaf (by simp only [s_X6_trace, Bool.false_eq_true, ↓reduceIte, Nat.reduceAdd, Nat.reduceMul, mj_tn0, mj_tn1, mj_tn2, mj_tn3]) (by simp only [s_X6_trace, Bool.false_eq_true, ↓reduceIte, Nat.reduceAdd, Nat.reduceMul, mj_tn0, mj_tn1, mj_tn2, mj_tn3]))
def s_X6_fault (I : mj_I) : Int32 := I 42 0
set_option maxHeartbeats 8000000 in
theorem x_X6_fault (l : Launch) (b base : Nat) (D : va_G) (z : mj_K × (Int32 → Int32)) (N : Nat) (I : mj_I) (c d r : Nat) : mj_Rn l b base D z mj_m_X6_fault 0 [.ref 42] [] (mj_KS N, I, mj_PP c d r) (mj_E N (some (.int (s_X6_fault  I))) I (mj_PP c d r)) := by
  refine R_seg (φ := []) (pc' := 4) (L' := [.ref 42]) (st' := [.int (I 42 0)]) (σ' := (mj_KS N, I, mj_PP c d r)) 2 rfl trivial ?_
  exact R_ri rfl rfl (mj_leaf (by simp only [s_X6_fault, Bool.false_eq_true, ↓reduceIte, Nat.reduceAdd, Nat.reduceMul, mj_tn0, mj_tn1, mj_tn2, mj_tn3]) (by simp only [s_X6_fault, Bool.false_eq_true, ↓reduceIte, Nat.reduceAdd, Nat.reduceMul, mj_tn0, mj_tn1, mj_tn2, mj_tn3]))
def s_X6_isStreet (s : Int32) (I : mj_I) : Int32 := if (s : Int32) < 0 then 0 else (if (s : Int32) < I 42 5 then 1 else 0)
set_option maxHeartbeats 8000000 in
theorem x_X6_isStreet (l : Launch) (b base : Nat) (D : va_G) (z : mj_K × (Int32 → Int32)) (N : Nat) (s : Int32) (I : mj_I) (c d r : Nat) : mj_Rn l b base D z mj_m_X6_isStreet 0 [.ref 42, .int s] [] (mj_KS N, I, mj_PP c d r) (mj_E N (some (.int (s_X6_isStreet s I))) I (mj_PP c d r)) := by
  refine R_seg (φ := []) (pc' := 1) (L' := [.ref 42, .int s]) (st' := [.int s]) (σ' := (mj_KS N, I, mj_PP c d r)) 1 rfl trivial ?_
  refine R_br (q := (s : Int32) < 0) (t := 16) (f := 4) (rest := []) rfl (fun h1 => ?_) (fun h1 => ?_)
  · skip
    refine R_seg (φ := []) (pc' := 17) (L' := [.ref 42, .int s]) (st' := [.int 0]) (σ' := (mj_KS N, I, mj_PP c d r)) 1 rfl trivial ?_
    exact R_rb rfl rfl (Or.inl rfl) (mj_leaf (by simp only [s_X6_isStreet, if_pos h1, Bool.false_eq_true, ↓reduceIte, Nat.reduceAdd, Nat.reduceMul, mj_tn0, mj_tn1, mj_tn2, mj_tn3]) (by simp only [s_X6_isStreet, if_pos h1, Bool.false_eq_true, ↓reduceIte, Nat.reduceAdd, Nat.reduceMul, mj_tn0, mj_tn1, mj_tn2, mj_tn3]))
  · skip
    refine R_seg (φ := []) (pc' := 9) (L' := [.ref 42, .int s]) (st' := [.int (I 42 5), .int s]) (σ' := (mj_KS N, I, mj_PP c d r)) 3 rfl trivial ?_
    refine R_br (q := (s : Int32) < I 42 5) (t := 12) (f := 16) (rest := []) rfl (fun h2 => ?_) (fun h2 => ?_)
    · skip
      refine R_seg (φ := []) (pc' := 17) (L' := [.ref 42, .int s]) (st' := [.int 1]) (σ' := (mj_KS N, I, mj_PP c d r)) 2 rfl trivial ?_
      exact R_rb rfl rfl (Or.inr rfl) (mj_leaf (by simp only [s_X6_isStreet, if_neg h1, if_pos h2, Bool.false_eq_true, ↓reduceIte, Nat.reduceAdd, Nat.reduceMul, mj_tn0, mj_tn1, mj_tn2, mj_tn3]) (by simp only [s_X6_isStreet, if_neg h1, if_pos h2, Bool.false_eq_true, ↓reduceIte, Nat.reduceAdd, Nat.reduceMul, mj_tn0, mj_tn1, mj_tn2, mj_tn3]))
    · skip
      refine R_seg (φ := []) (pc' := 17) (L' := [.ref 42, .int s]) (st' := [.int 0]) (σ' := (mj_KS N, I, mj_PP c d r)) 1 rfl trivial ?_
      exact R_rb rfl rfl (Or.inl rfl) (mj_leaf (by simp only [s_X6_isStreet, if_neg h1, if_neg h2, Bool.false_eq_true, ↓reduceIte, Nat.reduceAdd, Nat.reduceMul, mj_tn0, mj_tn1, mj_tn2, mj_tn3]) (by simp only [s_X6_isStreet, if_neg h1, if_neg h2, Bool.false_eq_true, ↓reduceIte, Nat.reduceAdd, Nat.reduceMul, mj_tn0, mj_tn1, mj_tn2, mj_tn3]))
def s_X6_isPlant (q : Int32) (I : mj_I) : Int32 := if (q : Int32) < 0 then 0 else (if (q : Int32) < I 42 6 then 1 else 0)
set_option maxHeartbeats 8000000 in
theorem x_X6_isPlant (l : Launch) (b base : Nat) (D : va_G) (z : mj_K × (Int32 → Int32)) (N : Nat) (q : Int32) (I : mj_I) (c d r : Nat) : mj_Rn l b base D z mj_m_X6_isPlant 0 [.ref 42, .int q] [] (mj_KS N, I, mj_PP c d r) (mj_E N (some (.int (s_X6_isPlant q I))) I (mj_PP c d r)) := by
  refine R_seg (φ := []) (pc' := 1) (L' := [.ref 42, .int q]) (st' := [.int q]) (σ' := (mj_KS N, I, mj_PP c d r)) 1 rfl trivial ?_
  refine R_br (q := (q : Int32) < 0) (t := 16) (f := 4) (rest := []) rfl (fun h1 => ?_) (fun h1 => ?_)
  · skip
    refine R_seg (φ := []) (pc' := 17) (L' := [.ref 42, .int q]) (st' := [.int 0]) (σ' := (mj_KS N, I, mj_PP c d r)) 1 rfl trivial ?_
    exact R_rb rfl rfl (Or.inl rfl) (mj_leaf (by simp only [s_X6_isPlant, if_pos h1, Bool.false_eq_true, ↓reduceIte, Nat.reduceAdd, Nat.reduceMul, mj_tn0, mj_tn1, mj_tn2, mj_tn3]) (by simp only [s_X6_isPlant, if_pos h1, Bool.false_eq_true, ↓reduceIte, Nat.reduceAdd, Nat.reduceMul, mj_tn0, mj_tn1, mj_tn2, mj_tn3]))
  · skip
    refine R_seg (φ := []) (pc' := 9) (L' := [.ref 42, .int q]) (st' := [.int (I 42 6), .int q]) (σ' := (mj_KS N, I, mj_PP c d r)) 3 rfl trivial ?_
    refine R_br (q := (q : Int32) < I 42 6) (t := 12) (f := 16) (rest := []) rfl (fun h2 => ?_) (fun h2 => ?_)
    · skip
      refine R_seg (φ := []) (pc' := 17) (L' := [.ref 42, .int q]) (st' := [.int 1]) (σ' := (mj_KS N, I, mj_PP c d r)) 2 rfl trivial ?_
      exact R_rb rfl rfl (Or.inr rfl) (mj_leaf (by simp only [s_X6_isPlant, if_neg h1, if_pos h2, Bool.false_eq_true, ↓reduceIte, Nat.reduceAdd, Nat.reduceMul, mj_tn0, mj_tn1, mj_tn2, mj_tn3]) (by simp only [s_X6_isPlant, if_neg h1, if_pos h2, Bool.false_eq_true, ↓reduceIte, Nat.reduceAdd, Nat.reduceMul, mj_tn0, mj_tn1, mj_tn2, mj_tn3]))
    · skip
      refine R_seg (φ := []) (pc' := 17) (L' := [.ref 42, .int q]) (st' := [.int 0]) (σ' := (mj_KS N, I, mj_PP c d r)) 1 rfl trivial ?_
      exact R_rb rfl rfl (Or.inl rfl) (mj_leaf (by simp only [s_X6_isPlant, if_neg h1, if_neg h2, Bool.false_eq_true, ↓reduceIte, Nat.reduceAdd, Nat.reduceMul, mj_tn0, mj_tn1, mj_tn2, mj_tn3]) (by simp only [s_X6_isPlant, if_neg h1, if_neg h2, Bool.false_eq_true, ↓reduceIte, Nat.reduceAdd, Nat.reduceMul, mj_tn0, mj_tn1, mj_tn2, mj_tn3]))
def s_X6_back (k : Int32) (I : mj_I) : Int32 × mj_I := if ((s_X6_within k 0 (I 42 25) I) : Int32) = 0 then ((-2), I) else ((I 42 25) - k, (mj_upI I 42 25 ((I 42 25) - k)))
set_option maxHeartbeats 8000000 in
theorem x_X6_back (l : Launch) (b base : Nat) (D : va_G) (z : mj_K × (Int32 → Int32)) (N : Nat) (k : Int32) (I : mj_I) (c d r : Nat) : mj_Rn l b base D z mj_m_X6_back 0 [.ref 42, .int k] [] (mj_KS N, I, mj_PP c d r) (mj_E N (some (.int (s_X6_back k I).1)) (s_X6_back k I).2 (mj_PP c d r)) := by
  refine R_seg (φ := []) (pc' := 6) (L' := [.ref 42, .int k]) (st' := [.int (I 42 25), .int 0, .int k]) (σ' := (mj_KS N, I, mj_PP c d r)) 4 rfl trivial ?_
  refine R_ce (idx := 76) (mid := 95) (kind := 1) (N := N) (M' := mj_m_X6_within) (As := [.int k, .int 0, .int (I 42 25)]) (rest := []) (I := I) (P := mj_PP c d r) (I' := I) (P' := mj_PP c d r) (v := some (.int (s_X6_within k 0 (I 42 25) I))) rfl rfl rfl mj_mc95 mj_dc95 rfl rfl rfl rfl rfl rfl (x_X6_within l b base D z N k 0 (I 42 25) I c d r) ?_
  refine R_seg (φ := []) (pc' := 9) (L' := [.ref 42, .int k]) (st' := [.int (s_X6_within k 0 (I 42 25) I)]) (σ' := (mj_KS N, I, mj_PP c d r)) 0 rfl trivial ?_
  refine R_br (q := ((s_X6_within k 0 (I 42 25) I) : Int32) = 0) (t := 12) (f := 15) (rest := []) rfl (fun h1 => ?_) (fun h1 => ?_)
  · skip
    refine R_seg (φ := []) (pc' := 14) (L' := [.ref 42, .int k]) (st' := [.int (-2)]) (σ' := (mj_KS N, I, mj_PP c d r)) 1 rfl trivial ?_
    exact R_ri rfl rfl (mj_leaf (by simp only [s_X6_back, if_pos h1, Bool.false_eq_true, ↓reduceIte, Nat.reduceAdd, Nat.reduceMul, mj_tn0, mj_tn1, mj_tn2, mj_tn3]) (by simp only [s_X6_back, if_pos h1, Bool.false_eq_true, ↓reduceIte, Nat.reduceAdd, Nat.reduceMul, mj_tn0, mj_tn1, mj_tn2, mj_tn3]))
  · skip
    refine R_seg (φ := []) (pc' := 29) (L' := [.ref 42, .int k]) (st' := [.int ((I 42 25) - k)]) (σ' := (mj_KS N, (mj_upI I 42 25 ((I 42 25) - k)), mj_PP c d r)) 8 rfl trivial ?_
    exact R_ri rfl rfl (mj_leaf (by simp only [s_X6_back, if_neg h1, Bool.false_eq_true, ↓reduceIte, Nat.reduceAdd, Nat.reduceMul, mj_tn0, mj_tn1, mj_tn2, mj_tn3]) (by simp only [s_X6_back, if_neg h1, Bool.false_eq_true, ↓reduceIte, Nat.reduceAdd, Nat.reduceMul, mj_tn0, mj_tn1, mj_tn2, mj_tn3]))
theorem mj6_wi {v a b : Int32} {I : mj_I} (h : ¬ s_X6_within v a b I = 0) : a.toInt ≤ v.toInt ∧ v.toInt ≤ b.toInt := by
  unfold s_X6_within at h
  by_cases h1 : v < a
  · rw [if_pos h1] at h; exact absurd rfl h
  · rw [if_neg h1] at h
    by_cases h2 : b < v
    · rw [if_pos h2] at h; exact absurd rfl h
    · exact ⟨mj_iN h1, mj_iN h2⟩
theorem mj6_win {v b : Int32} {n : Nat} {I : mj_I} (h : ¬ s_X6_within v 0 b I = 0) (hb : b.toInt < (n : Int)) : mj_in v n := by
  have := mj6_wi h
  rw [Int32.toInt_zero] at this
  exact (show 0 ≤ v.toInt ∧ v.toInt < (n : Int) from ⟨this.1, by omega⟩)
theorem mj6_sh {k : Int32} {I : mj_I} (h : ¬ s_X6_isSheet k I = 0) : mj_in k 4 := mj6_win h (by decide)
theorem mj6_lt {s b : Int32} {n : Nat} (h : ¬ (if s < 0 then (0 : Int32) else if s < b then 1 else 0) = 0) (hb : b.toInt ≤ (n : Int)) : mj_in s n := by
  by_cases h1 : s < 0
  · rw [if_pos h1] at h; exact absurd rfl h
  · rw [if_neg h1] at h
    by_cases h2 : s < b
    · have a1 := mj_i0 h1
      have a2 := mj_iL h2
      exact (show 0 ≤ s.toInt ∧ s.toInt < (n : Int) from ⟨a1, by omega⟩)
    · rw [if_neg h2] at h; exact absurd rfl h
theorem mj6_st {s : Int32} {I : mj_I} (h : ¬ s_X6_isStreet s I = 0) (hS : (I 42 5).toInt ≤ 6) : mj_in s 6 := mj6_lt h hS
theorem mj6_pl {s : Int32} {I : mj_I} (h : ¬ s_X6_isPlant s I = 0) (hP : (I 42 6).toInt ≤ 3) : mj_in s 3 := mj6_lt h hP
theorem mj_inb {i : Int32} {n : Nat} (h : mj_in i n) : 0 ≤ i.toInt ∧ i.toInt < (n : Int) := h
theorem mj_mkin {i : Int32} {n : Nat} (h : 0 ≤ i.toInt ∧ i.toInt < (n : Int)) : mj_in i n := h
theorem mj_t3m (q : Int32) (hq : mj_in q 3) : (3 * q).toInt = 3 * q.toInt := by
  have := mj_inb hq
  have e : (3 : Int32).toInt = 3 := by decide
  rw [mj_imul (by rw [e]; omega) (by rw [e]; omega), e]
theorem mj_t60m (q : Int32) (hq : mj_in q 4) : (60 * q).toInt = 60 * q.toInt := by
  have := mj_inb hq
  have e : (60 : Int32).toInt = 60 := by decide
  rw [mj_imul (by rw [e]; omega) (by rw [e]; omega), e]
theorem mj6_w3 {q t : Int32} (hq : mj_in q 3) (ht : mj_in t 3) : mj_in (3 * q + t) 9 := by
  have a1 := mj_inb hq
  have a2 := mj_inb ht
  have e := mj_t3m q hq
  have e2 : (3 * q + t).toInt = 3 * q.toInt + t.toInt := by rw [mj_iadd (by omega) (by omega), e]
  exact mj_mkin ⟨by omega, by omega⟩
theorem mj6_w30 {q : Int32} (hq : mj_in q 3) : mj_in (3 * q) 9 := by
  have a1 := mj_inb hq
  have e := mj_t3m q hq
  exact mj_mkin ⟨by omega, by omega⟩
theorem mj6_w1 {q w : Int32} (hq : mj_in q 3) (h1 : 1 ≤ w.toInt) (h2 : w.toInt ≤ 3) : mj_in (3 * q + w - 1) 9 := by
  have a1 := mj_inb hq
  have e := mj_t3m q hq
  have e1 : (1 : Int32).toInt = 1 := by decide
  have e2 : (3 * q + w).toInt = 3 * q.toInt + w.toInt := by rw [mj_iadd (by omega) (by omega), e]
  have e3 : (3 * q + w - 1).toInt = 3 * q.toInt + w.toInt - 1 := by rw [mj_isub (by omega) (by omega), e2, e1]
  exact mj_mkin ⟨by omega, by omega⟩
theorem mj6_c60 {k i : Int32} (hk : mj_in k 4) (hi : mj_in i 60) : mj_in (60 * k + i) 240 := by
  have a1 := mj_inb hk
  have a2 := mj_inb hi
  have e := mj_t60m k hk
  have e2 : (60 * k + i).toInt = 60 * k.toInt + i.toInt := by rw [mj_iadd (by omega) (by omega), e]
  exact mj_mkin ⟨by omega, by omega⟩
theorem mj6_hf {g : Int32} (h : mj_in g 7) (h1 : ¬ g = 6) : mj_in (g / 2) 3 := by
  have a := mj_inb h
  have b := mj_iE h1
  have e6 : (6 : Int32).toInt = 6 := by decide
  exact mj_half (Int32.not_lt.mpr (Int32.le_iff_toInt_le.mpr (by rw [Int32.toInt_zero]; omega))) (Int32.lt_iff_toInt_lt.mpr (by omega))
theorem mj6_wl {v b : Int32} {I : mj_I} (h : ¬ s_X6_within v 0 (b - 1) I = 0) (hb : 0 ≤ b.toInt ∧ b.toInt ≤ 60) : mj_in v 60 := by
  have e1 : (1 : Int32).toInt = 1 := by decide
  refine mj6_win h ?_
  rw [mj_isub (by omega) (by omega), e1]
  omega
theorem mj6_rd {x : Int32} (hr : 0 ≤ x.toInt ∧ x.toInt ≤ 8) (h : ¬ x = 8) : mj_in x 8 := by
  have a := mj_iE h
  have e8 : (8 : Int32).toInt = 8 := by decide
  exact mj_mkin ⟨hr.1, by omega⟩
def s_X6_against (k : Int32) (a : Int32) (i : Int32) (n : Int32) (I : mj_I) : Int32 := if (I 43 k : Int32) = (-9) then 1 else (if (I 43 k : Int32) = a then (if (n : Int32) < 0 then 4 else (if (i : Int32) < 0 then 3 else (if (I 44 k : Int32) < i then 3 else (if ((I 44 k) - i : Int32) < n then 3 else 0)))) else 2)
set_option maxHeartbeats 8000000 in
theorem x_X6_against (l : Launch) (b base : Nat) (D : va_G) (z : mj_K × (Int32 → Int32)) (N : Nat) (k : Int32) (a : Int32) (i : Int32) (n : Int32) (I : mj_I) (c d r : Nat) (hk : mj_in k 4) : mj_Rn l b base D z mj_m_X6_against 0 [.ref 42, .int k, .int a, .int i, .int n] [] (mj_KS N, I, mj_PP c d r) (mj_E N (some (.int (s_X6_against k a i n I))) I (mj_PP c d r)) := by
  refine R_seg (φ := [mj_in k 4]) (pc' := 8) (L' := [.ref 42, .int k, .int a, .int i, .int n]) (st' := [.int (-9), .int (I 43 k)]) (σ' := (mj_KS N, I, mj_PP c d r)) 5 rfl ⟨hk, trivial⟩ ?_
  refine R_br (q := (I 43 k : Int32) = (-9)) (t := 23) (f := 11) (rest := []) rfl (fun h1 => ?_) (fun h1 => ?_)
  · skip
    refine R_seg (φ := [mj_in k 4]) (pc' := 31) (L' := [.ref 42, .int k, .int a, .int i, .int n]) (st' := [.int (-9), .int (I 43 k)]) (σ' := (mj_KS N, I, mj_PP c d r)) 5 rfl ⟨hk, trivial⟩ ?_
    refine R_br (q := (I 43 k : Int32) = (-9)) (t := 34) (f := 36) (rest := []) rfl (fun h2 => ?_) (fun h2 => absurd (h1) h2)
    refine R_seg (φ := []) (pc' := 35) (L' := [.ref 42, .int k, .int a, .int i, .int n]) (st' := [.int 1]) (σ' := (mj_KS N, I, mj_PP c d r)) 1 rfl trivial ?_
    exact R_ri rfl rfl (mj_leaf (by simp only [s_X6_against, if_pos h1, Bool.false_eq_true, ↓reduceIte, Nat.reduceAdd, Nat.reduceMul, mj_tn0, mj_tn1, mj_tn2, mj_tn3]) (by simp only [s_X6_against, if_pos h1, Bool.false_eq_true, ↓reduceIte, Nat.reduceAdd, Nat.reduceMul, mj_tn0, mj_tn1, mj_tn2, mj_tn3]))
  · skip
    refine R_seg (φ := [mj_in k 4]) (pc' := 18) (L' := [.ref 42, .int k, .int a, .int i, .int n]) (st' := [.int a, .int (I 43 k)]) (σ' := (mj_KS N, I, mj_PP c d r)) 5 rfl ⟨hk, trivial⟩ ?_
    refine R_br (q := (I 43 k : Int32) = a) (t := 23) (f := 21) (rest := []) rfl (fun h3 => ?_) (fun h3 => ?_)
    · skip
      refine R_seg (φ := [mj_in k 4]) (pc' := 31) (L' := [.ref 42, .int k, .int a, .int i, .int n]) (st' := [.int (-9), .int (I 43 k)]) (σ' := (mj_KS N, I, mj_PP c d r)) 5 rfl ⟨hk, trivial⟩ ?_
      refine R_br (q := (I 43 k : Int32) = (-9)) (t := 34) (f := 36) (rest := []) rfl (fun h4 => absurd h4 (h1)) (fun h4 => ?_)
      refine R_seg (φ := []) (pc' := 38) (L' := [.ref 42, .int k, .int a, .int i, .int n]) (st' := [.int n]) (σ' := (mj_KS N, I, mj_PP c d r)) 1 rfl trivial ?_
      refine R_br (q := (n : Int32) < 0) (t := 41) (f := 43) (rest := []) rfl (fun h5 => ?_) (fun h5 => ?_)
      · skip
        refine R_seg (φ := []) (pc' := 42) (L' := [.ref 42, .int k, .int a, .int i, .int n]) (st' := [.int 4]) (σ' := (mj_KS N, I, mj_PP c d r)) 1 rfl trivial ?_
        exact R_ri rfl rfl (mj_leaf (by simp only [s_X6_against, if_neg h1, if_pos h3, if_pos h5, Bool.false_eq_true, ↓reduceIte, Nat.reduceAdd, Nat.reduceMul, mj_tn0, mj_tn1, mj_tn2, mj_tn3]) (by simp only [s_X6_against, if_neg h1, if_pos h3, if_pos h5, Bool.false_eq_true, ↓reduceIte, Nat.reduceAdd, Nat.reduceMul, mj_tn0, mj_tn1, mj_tn2, mj_tn3]))
      · skip
        refine R_seg (φ := []) (pc' := 44) (L' := [.ref 42, .int k, .int a, .int i, .int n]) (st' := [.int i]) (σ' := (mj_KS N, I, mj_PP c d r)) 1 rfl trivial ?_
        refine R_br (q := (i : Int32) < 0) (t := 70) (f := 47) (rest := []) rfl (fun h6 => ?_) (fun h6 => ?_)
        · skip
          refine R_seg (φ := []) (pc' := 75) (L' := [.ref 42, .int k, .int a, .int i, .int n]) (st' := [.int 3]) (σ' := (mj_KS N, I, mj_PP c d r)) 2 rfl trivial ?_
          exact R_ri rfl rfl (mj_leaf (by simp only [s_X6_against, if_neg h1, if_pos h3, if_neg h5, if_pos h6, Bool.false_eq_true, ↓reduceIte, Nat.reduceAdd, Nat.reduceMul, mj_tn0, mj_tn1, mj_tn2, mj_tn3]) (by simp only [s_X6_against, if_neg h1, if_pos h3, if_neg h5, if_pos h6, Bool.false_eq_true, ↓reduceIte, Nat.reduceAdd, Nat.reduceMul, mj_tn0, mj_tn1, mj_tn2, mj_tn3]))
        · skip
          refine R_seg (φ := [mj_in k 4]) (pc' := 54) (L' := [.ref 42, .int k, .int a, .int i, .int n]) (st' := [.int (I 44 k), .int i]) (σ' := (mj_KS N, I, mj_PP c d r)) 5 rfl ⟨hk, trivial⟩ ?_
          refine R_br (q := (I 44 k : Int32) < i) (t := 70) (f := 57) (rest := []) rfl (fun h7 => ?_) (fun h7 => ?_)
          · skip
            refine R_seg (φ := []) (pc' := 75) (L' := [.ref 42, .int k, .int a, .int i, .int n]) (st' := [.int 3]) (σ' := (mj_KS N, I, mj_PP c d r)) 2 rfl trivial ?_
            exact R_ri rfl rfl (mj_leaf (by simp only [s_X6_against, if_neg h1, if_pos h3, if_neg h5, if_neg h6, if_pos h7, Bool.false_eq_true, ↓reduceIte, Nat.reduceAdd, Nat.reduceMul, mj_tn0, mj_tn1, mj_tn2, mj_tn3]) (by simp only [s_X6_against, if_neg h1, if_pos h3, if_neg h5, if_neg h6, if_pos h7, Bool.false_eq_true, ↓reduceIte, Nat.reduceAdd, Nat.reduceMul, mj_tn0, mj_tn1, mj_tn2, mj_tn3]))
          · skip
            refine R_seg (φ := [mj_in k 4]) (pc' := 67) (L' := [.ref 42, .int k, .int a, .int i, .int n]) (st' := [.int ((I 44 k) - i), .int n]) (σ' := (mj_KS N, I, mj_PP c d r)) 7 rfl ⟨hk, trivial⟩ ?_
            refine R_br (q := ((I 44 k) - i : Int32) < n) (t := 70) (f := 74) (rest := []) rfl (fun h8 => ?_) (fun h8 => ?_)
            · skip
              refine R_seg (φ := []) (pc' := 75) (L' := [.ref 42, .int k, .int a, .int i, .int n]) (st' := [.int 3]) (σ' := (mj_KS N, I, mj_PP c d r)) 2 rfl trivial ?_
              exact R_ri rfl rfl (mj_leaf (by simp only [s_X6_against, if_neg h1, if_pos h3, if_neg h5, if_neg h6, if_neg h7, if_pos h8, Bool.false_eq_true, ↓reduceIte, Nat.reduceAdd, Nat.reduceMul, mj_tn0, mj_tn1, mj_tn2, mj_tn3]) (by simp only [s_X6_against, if_neg h1, if_pos h3, if_neg h5, if_neg h6, if_neg h7, if_pos h8, Bool.false_eq_true, ↓reduceIte, Nat.reduceAdd, Nat.reduceMul, mj_tn0, mj_tn1, mj_tn2, mj_tn3]))
            · skip
              refine R_seg (φ := []) (pc' := 75) (L' := [.ref 42, .int k, .int a, .int i, .int n]) (st' := [.int 0]) (σ' := (mj_KS N, I, mj_PP c d r)) 1 rfl trivial ?_
              exact R_ri rfl rfl (mj_leaf (by simp only [s_X6_against, if_neg h1, if_pos h3, if_neg h5, if_neg h6, if_neg h7, if_neg h8, Bool.false_eq_true, ↓reduceIte, Nat.reduceAdd, Nat.reduceMul, mj_tn0, mj_tn1, mj_tn2, mj_tn3]) (by simp only [s_X6_against, if_neg h1, if_pos h3, if_neg h5, if_neg h6, if_neg h7, if_neg h8, Bool.false_eq_true, ↓reduceIte, Nat.reduceAdd, Nat.reduceMul, mj_tn0, mj_tn1, mj_tn2, mj_tn3]))
    · skip
      refine R_seg (φ := []) (pc' := 22) (L' := [.ref 42, .int k, .int a, .int i, .int n]) (st' := [.int 2]) (σ' := (mj_KS N, I, mj_PP c d r)) 1 rfl trivial ?_
      exact R_ri rfl rfl (mj_leaf (by simp only [s_X6_against, if_neg h1, if_neg h3, Bool.false_eq_true, ↓reduceIte, Nat.reduceAdd, Nat.reduceMul, mj_tn0, mj_tn1, mj_tn2, mj_tn3]) (by simp only [s_X6_against, if_neg h1, if_neg h3, Bool.false_eq_true, ↓reduceIte, Nat.reduceAdd, Nat.reduceMul, mj_tn0, mj_tn1, mj_tn2, mj_tn3]))
def s_X6_ofStreet (s : Int32) (w : Int32) (I : mj_I) : Int32 := if ((s_X6_isStreet s I) : Int32) = 0 then (-1) else (if (w : Int32) = 0 then (I 46 s) else (if (w : Int32) = 1 then (I 47 s) else (-2)))
set_option maxHeartbeats 8000000 in
theorem x_X6_ofStreet (l : Launch) (b base : Nat) (D : va_G) (z : mj_K × (Int32 → Int32)) (N : Nat) (s : Int32) (w : Int32) (I : mj_I) (c d r : Nat) (hS : (I 42 5).toInt ≤ 6) : mj_Rn l b base D z mj_m_X6_ofStreet 0 [.ref 42, .int s, .int w] [] (mj_KS N, I, mj_PP c d r) (mj_E N (some (.int (s_X6_ofStreet s w I))) I (mj_PP c d r)) := by
  refine R_seg (φ := []) (pc' := 2) (L' := [.ref 42, .int s, .int w]) (st' := [.int s, .ref 42]) (σ' := (mj_KS N, I, mj_PP c d r)) 2 rfl trivial ?_
  refine R_ce (idx := 137) (mid := 99) (kind := 0) (N := N) (M' := mj_m_X6_isStreet) (As := [.ref 42, .int s]) (rest := []) (I := I) (P := mj_PP c d r) (I' := I) (P' := mj_PP c d r) (v := some (.int (s_X6_isStreet s I))) rfl rfl rfl mj_mc99 mj_dc99 rfl rfl rfl rfl rfl rfl (x_X6_isStreet l b base D z N s I c d r) ?_
  refine R_seg (φ := []) (pc' := 5) (L' := [.ref 42, .int s, .int w]) (st' := [.int (s_X6_isStreet s I)]) (σ' := (mj_KS N, I, mj_PP c d r)) 0 rfl trivial ?_
  refine R_br (q := ((s_X6_isStreet s I) : Int32) = 0) (t := 8) (f := 10) (rest := []) rfl (fun h1 => ?_) (fun h1 => ?_)
  · skip
    refine R_seg (φ := []) (pc' := 9) (L' := [.ref 42, .int s, .int w]) (st' := [.int (-1)]) (σ' := (mj_KS N, I, mj_PP c d r)) 1 rfl trivial ?_
    exact R_ri rfl rfl (mj_leaf (by simp only [s_X6_ofStreet, if_pos h1, Bool.false_eq_true, ↓reduceIte, Nat.reduceAdd, Nat.reduceMul, mj_tn0, mj_tn1, mj_tn2, mj_tn3]) (by simp only [s_X6_ofStreet, if_pos h1, Bool.false_eq_true, ↓reduceIte, Nat.reduceAdd, Nat.reduceMul, mj_tn0, mj_tn1, mj_tn2, mj_tn3]))
  · skip
    refine R_seg (φ := []) (pc' := 11) (L' := [.ref 42, .int s, .int w]) (st' := [.int w]) (σ' := (mj_KS N, I, mj_PP c d r)) 1 rfl trivial ?_
    refine R_br (q := (w : Int32) = 0) (t := 14) (f := 23) (rest := []) rfl (fun h2 => ?_) (fun h2 => ?_)
    · skip
      refine R_seg (φ := [mj_in s 6]) (pc' := 39) (L' := [.ref 42, .int s, .int w]) (st' := [.int (I 46 s)]) (σ' := (mj_KS N, I, mj_PP c d r)) 5 rfl ⟨(mj6_st h1 hS), trivial⟩ ?_
      exact R_ri rfl rfl (mj_leaf (by simp only [s_X6_ofStreet, if_neg h1, if_pos h2, Bool.false_eq_true, ↓reduceIte, Nat.reduceAdd, Nat.reduceMul, mj_tn0, mj_tn1, mj_tn2, mj_tn3]) (by simp only [s_X6_ofStreet, if_neg h1, if_pos h2, Bool.false_eq_true, ↓reduceIte, Nat.reduceAdd, Nat.reduceMul, mj_tn0, mj_tn1, mj_tn2, mj_tn3]))
    · skip
      refine R_seg (φ := []) (pc' := 25) (L' := [.ref 42, .int s, .int w]) (st' := [.int 1, .int w]) (σ' := (mj_KS N, I, mj_PP c d r)) 2 rfl trivial ?_
      refine R_br (q := (w : Int32) = 1) (t := 28) (f := 37) (rest := []) rfl (fun h3 => ?_) (fun h3 => ?_)
      · skip
        refine R_seg (φ := [mj_in s 6]) (pc' := 39) (L' := [.ref 42, .int s, .int w]) (st' := [.int (I 47 s)]) (σ' := (mj_KS N, I, mj_PP c d r)) 5 rfl ⟨(mj6_st h1 hS), trivial⟩ ?_
        exact R_ri rfl rfl (mj_leaf (by simp only [s_X6_ofStreet, if_neg h1, if_neg h2, if_pos h3, Bool.false_eq_true, ↓reduceIte, Nat.reduceAdd, Nat.reduceMul, mj_tn0, mj_tn1, mj_tn2, mj_tn3]) (by simp only [s_X6_ofStreet, if_neg h1, if_neg h2, if_pos h3, Bool.false_eq_true, ↓reduceIte, Nat.reduceAdd, Nat.reduceMul, mj_tn0, mj_tn1, mj_tn2, mj_tn3]))
      · skip
        refine R_seg (φ := []) (pc' := 39) (L' := [.ref 42, .int s, .int w]) (st' := [.int (-2)]) (σ' := (mj_KS N, I, mj_PP c d r)) 1 rfl trivial ?_
        exact R_ri rfl rfl (mj_leaf (by simp only [s_X6_ofStreet, if_neg h1, if_neg h2, if_neg h3, Bool.false_eq_true, ↓reduceIte, Nat.reduceAdd, Nat.reduceMul, mj_tn0, mj_tn1, mj_tn2, mj_tn3]) (by simp only [s_X6_ofStreet, if_neg h1, if_neg h2, if_neg h3, Bool.false_eq_true, ↓reduceIte, Nat.reduceAdd, Nat.reduceMul, mj_tn0, mj_tn1, mj_tn2, mj_tn3]))
def s_X6_ofPlant (q : Int32) (w : Int32) (I : mj_I) : Int32 := if ((s_X6_isPlant q I) : Int32) = 0 then (-1) else (if (w : Int32) = 0 then (I 48 q) else (if ((s_X6_within w 1 3 I) : Int32) = 0 then (-2) else (I 49 (((3 * q) + w) - 1))))
set_option maxHeartbeats 8000000 in
theorem x_X6_ofPlant (l : Launch) (b base : Nat) (D : va_G) (z : mj_K × (Int32 → Int32)) (N : Nat) (q : Int32) (w : Int32) (I : mj_I) (c d r : Nat) (hP : (I 42 6).toInt ≤ 3) : mj_Rn l b base D z mj_m_X6_ofPlant 0 [.ref 42, .int q, .int w] [] (mj_KS N, I, mj_PP c d r) (mj_E N (some (.int (s_X6_ofPlant q w I))) I (mj_PP c d r)) := by
  refine R_seg (φ := []) (pc' := 2) (L' := [.ref 42, .int q, .int w]) (st' := [.int q, .ref 42]) (σ' := (mj_KS N, I, mj_PP c d r)) 2 rfl trivial ?_
  refine R_ce (idx := 140) (mid := 100) (kind := 0) (N := N) (M' := mj_m_X6_isPlant) (As := [.ref 42, .int q]) (rest := []) (I := I) (P := mj_PP c d r) (I' := I) (P' := mj_PP c d r) (v := some (.int (s_X6_isPlant q I))) rfl rfl rfl mj_mc100 mj_dc100 rfl rfl rfl rfl rfl rfl (x_X6_isPlant l b base D z N q I c d r) ?_
  refine R_seg (φ := []) (pc' := 5) (L' := [.ref 42, .int q, .int w]) (st' := [.int (s_X6_isPlant q I)]) (σ' := (mj_KS N, I, mj_PP c d r)) 0 rfl trivial ?_
  refine R_br (q := ((s_X6_isPlant q I) : Int32) = 0) (t := 8) (f := 10) (rest := []) rfl (fun h1 => ?_) (fun h1 => ?_)
  · skip
    refine R_seg (φ := []) (pc' := 9) (L' := [.ref 42, .int q, .int w]) (st' := [.int (-1)]) (σ' := (mj_KS N, I, mj_PP c d r)) 1 rfl trivial ?_
    exact R_ri rfl rfl (mj_leaf (by simp only [s_X6_ofPlant, if_pos h1, Bool.false_eq_true, ↓reduceIte, Nat.reduceAdd, Nat.reduceMul, mj_tn0, mj_tn1, mj_tn2, mj_tn3]) (by simp only [s_X6_ofPlant, if_pos h1, Bool.false_eq_true, ↓reduceIte, Nat.reduceAdd, Nat.reduceMul, mj_tn0, mj_tn1, mj_tn2, mj_tn3]))
  · skip
    refine R_seg (φ := []) (pc' := 11) (L' := [.ref 42, .int q, .int w]) (st' := [.int w]) (σ' := (mj_KS N, I, mj_PP c d r)) 1 rfl trivial ?_
    refine R_br (q := (w : Int32) = 0) (t := 14) (f := 23) (rest := []) rfl (fun h2 => ?_) (fun h2 => ?_)
    · skip
      refine R_seg (φ := [mj_in q 3]) (pc' := 49) (L' := [.ref 42, .int q, .int w]) (st' := [.int (I 48 q)]) (σ' := (mj_KS N, I, mj_PP c d r)) 5 rfl ⟨(mj6_pl h1 hP), trivial⟩ ?_
      exact R_ri rfl rfl (mj_leaf (by simp only [s_X6_ofPlant, if_neg h1, if_pos h2, Bool.false_eq_true, ↓reduceIte, Nat.reduceAdd, Nat.reduceMul, mj_tn0, mj_tn1, mj_tn2, mj_tn3]) (by simp only [s_X6_ofPlant, if_neg h1, if_pos h2, Bool.false_eq_true, ↓reduceIte, Nat.reduceAdd, Nat.reduceMul, mj_tn0, mj_tn1, mj_tn2, mj_tn3]))
    · skip
      refine R_seg (φ := []) (pc' := 26) (L' := [.ref 42, .int q, .int w]) (st' := [.int 3, .int 1, .int w]) (σ' := (mj_KS N, I, mj_PP c d r)) 3 rfl trivial ?_
      refine R_ce (idx := 76) (mid := 95) (kind := 1) (N := N) (M' := mj_m_X6_within) (As := [.int w, .int 1, .int 3]) (rest := []) (I := I) (P := mj_PP c d r) (I' := I) (P' := mj_PP c d r) (v := some (.int (s_X6_within w 1 3 I))) rfl rfl rfl mj_mc95 mj_dc95 rfl rfl rfl rfl rfl rfl (x_X6_within l b base D z N w 1 3 I c d r) ?_
      refine R_seg (φ := []) (pc' := 29) (L' := [.ref 42, .int q, .int w]) (st' := [.int (s_X6_within w 1 3 I)]) (σ' := (mj_KS N, I, mj_PP c d r)) 0 rfl trivial ?_
      refine R_br (q := ((s_X6_within w 1 3 I) : Int32) = 0) (t := 47) (f := 32) (rest := []) rfl (fun h3 => ?_) (fun h3 => ?_)
      · skip
        refine R_seg (φ := []) (pc' := 49) (L' := [.ref 42, .int q, .int w]) (st' := [.int (-2)]) (σ' := (mj_KS N, I, mj_PP c d r)) 1 rfl trivial ?_
        exact R_ri rfl rfl (mj_leaf (by simp only [s_X6_ofPlant, if_neg h1, if_neg h2, if_pos h3, Bool.false_eq_true, ↓reduceIte, Nat.reduceAdd, Nat.reduceMul, mj_tn0, mj_tn1, mj_tn2, mj_tn3]) (by simp only [s_X6_ofPlant, if_neg h1, if_neg h2, if_pos h3, Bool.false_eq_true, ↓reduceIte, Nat.reduceAdd, Nat.reduceMul, mj_tn0, mj_tn1, mj_tn2, mj_tn3]))
      · skip
        refine R_seg (φ := [mj_in (((3 * q) + w) - 1) 9]) (pc' := 49) (L' := [.ref 42, .int q, .int w]) (st' := [.int (I 49 (((3 * q) + w) - 1))]) (σ' := (mj_KS N, I, mj_PP c d r)) 11 rfl ⟨(mj6_w1 (mj6_pl h1 hP) (mj6_wi h3).1 (mj6_wi h3).2), trivial⟩ ?_
        exact R_ri rfl rfl (mj_leaf (by simp only [s_X6_ofPlant, if_neg h1, if_neg h2, if_neg h3, Bool.false_eq_true, ↓reduceIte, Nat.reduceAdd, Nat.reduceMul, mj_tn0, mj_tn1, mj_tn2, mj_tn3]) (by simp only [s_X6_ofPlant, if_neg h1, if_neg h2, if_neg h3, Bool.false_eq_true, ↓reduceIte, Nat.reduceAdd, Nat.reduceMul, mj_tn0, mj_tn1, mj_tn2, mj_tn3]))
def s_X6_let (s : Int32) (v : Int32) (I : mj_I) : Int32 × mj_I := if ((s_X6_isStreet s I) : Int32) = 0 then ((-1), I) else (if ((s_X6_isSeason v I) : Int32) = 0 then ((-2), I) else (I 46 s, (mj_upI (mj_upI I 46 s v) 42 23 0)))
set_option maxHeartbeats 8000000 in
theorem x_X6_let (l : Launch) (b base : Nat) (D : va_G) (z : mj_K × (Int32 → Int32)) (N : Nat) (s : Int32) (v : Int32) (I : mj_I) (c d r : Nat) (hS : (I 42 5).toInt ≤ 6) : mj_Rn l b base D z mj_m_X6_let 0 [.ref 42, .int s, .int v, mj_mk] [] (mj_KS N, I, mj_PP c d r) (mj_E N (some (.int (s_X6_let s v I).1)) (s_X6_let s v I).2 (mj_PP c d r)) := by
  refine R_seg (φ := []) (pc' := 2) (L' := [.ref 42, .int s, .int v, mj_mk]) (st' := [.int s, .ref 42]) (σ' := (mj_KS N, I, mj_PP c d r)) 2 rfl trivial ?_
  refine R_ce (idx := 137) (mid := 99) (kind := 0) (N := N) (M' := mj_m_X6_isStreet) (As := [.ref 42, .int s]) (rest := []) (I := I) (P := mj_PP c d r) (I' := I) (P' := mj_PP c d r) (v := some (.int (s_X6_isStreet s I))) rfl rfl rfl mj_mc99 mj_dc99 rfl rfl rfl rfl rfl rfl (x_X6_isStreet l b base D z N s I c d r) ?_
  refine R_seg (φ := []) (pc' := 5) (L' := [.ref 42, .int s, .int v, mj_mk]) (st' := [.int (s_X6_isStreet s I)]) (σ' := (mj_KS N, I, mj_PP c d r)) 0 rfl trivial ?_
  refine R_br (q := ((s_X6_isStreet s I) : Int32) = 0) (t := 8) (f := 10) (rest := []) rfl (fun h1 => ?_) (fun h1 => ?_)
  · skip
    refine R_seg (φ := []) (pc' := 9) (L' := [.ref 42, .int s, .int v, mj_mk]) (st' := [.int (-1)]) (σ' := (mj_KS N, I, mj_PP c d r)) 1 rfl trivial ?_
    exact R_ri rfl rfl (mj_leaf (by simp only [s_X6_let, if_pos h1, Bool.false_eq_true, ↓reduceIte, Nat.reduceAdd, Nat.reduceMul, mj_tn0, mj_tn1, mj_tn2, mj_tn3]) (by simp only [s_X6_let, if_pos h1, Bool.false_eq_true, ↓reduceIte, Nat.reduceAdd, Nat.reduceMul, mj_tn0, mj_tn1, mj_tn2, mj_tn3]))
  · skip
    refine R_seg (φ := []) (pc' := 11) (L' := [.ref 42, .int s, .int v, mj_mk]) (st' := [.int v]) (σ' := (mj_KS N, I, mj_PP c d r)) 1 rfl trivial ?_
    refine R_ce (idx := 143) (mid := 101) (kind := 1) (N := N) (M' := mj_m_X6_isSeason) (As := [.int v]) (rest := []) (I := I) (P := mj_PP c d r) (I' := I) (P' := mj_PP c d r) (v := some (.int (s_X6_isSeason v I))) rfl rfl rfl mj_mc101 mj_dc101 rfl rfl rfl rfl rfl rfl (x_X6_isSeason l b base D z N v I c d r) ?_
    refine R_seg (φ := []) (pc' := 14) (L' := [.ref 42, .int s, .int v, mj_mk]) (st' := [.int (s_X6_isSeason v I)]) (σ' := (mj_KS N, I, mj_PP c d r)) 0 rfl trivial ?_
    refine R_br (q := ((s_X6_isSeason v I) : Int32) = 0) (t := 17) (f := 20) (rest := []) rfl (fun h2 => ?_) (fun h2 => ?_)
    · skip
      refine R_seg (φ := []) (pc' := 19) (L' := [.ref 42, .int s, .int v, mj_mk]) (st' := [.int (-2)]) (σ' := (mj_KS N, I, mj_PP c d r)) 1 rfl trivial ?_
      exact R_ri rfl rfl (mj_leaf (by simp only [s_X6_let, if_neg h1, if_pos h2, Bool.false_eq_true, ↓reduceIte, Nat.reduceAdd, Nat.reduceMul, mj_tn0, mj_tn1, mj_tn2, mj_tn3]) (by simp only [s_X6_let, if_neg h1, if_pos h2, Bool.false_eq_true, ↓reduceIte, Nat.reduceAdd, Nat.reduceMul, mj_tn0, mj_tn1, mj_tn2, mj_tn3]))
    · skip
      refine R_seg (φ := [mj_in s 6, mj_in s 6, (0 : Int32) = 0 ∨ (0 : Int32) = 1]) (pc' := 40) (L' := [.ref 42, .int s, .int v, .int (I 46 s)]) (st' := [.int (I 46 s)]) (σ' := (mj_KS N, (mj_upI (mj_upI I 46 s v) 42 23 0), mj_PP c d r)) 14 rfl ⟨(mj6_st h1 hS), (mj6_st h1 hS), Or.inl rfl, trivial⟩ ?_
      exact R_ri rfl rfl (mj_leaf (by simp only [s_X6_let, if_neg h1, if_neg h2, Bool.false_eq_true, ↓reduceIte, Nat.reduceAdd, Nat.reduceMul, mj_tn0, mj_tn1, mj_tn2, mj_tn3]) (by simp only [s_X6_let, if_neg h1, if_neg h2, Bool.false_eq_true, ↓reduceIte, Nat.reduceAdd, Nat.reduceMul, mj_tn0, mj_tn1, mj_tn2, mj_tn3]))
def s_X6_corner (x : Int32) (y : Int32) (v : Int32) (I : mj_I) : Int32 × mj_I := if ((s_X6_isStreet x I) : Int32) = 0 then ((-1), I) else (if ((s_X6_isStreet y I) : Int32) = 0 then ((-1), I) else (if (x : Int32) = y then ((-1), I) else (if (((I 47 x) >>> (y &&& 31)) &&& 1 : Int32) = 1 then (if (v : Int32) = 0 then (if (1 : Int32) = v then (0, (mj_upI (mj_upI (mj_upI I 42 23 0) 47 x ((I 47 x) &&& ((1 <<< (y &&& 31)) ^^^ (-1)))) 47 y (((mj_upI (mj_upI I 42 23 0) 47 x ((I 47 x) &&& ((1 <<< (y &&& 31)) ^^^ (-1)))) 47 y) &&& ((1 <<< (x &&& 31)) ^^^ (-1))))) else (1, (mj_upI (mj_upI (mj_upI I 42 23 0) 47 x ((I 47 x) &&& ((1 <<< (y &&& 31)) ^^^ (-1)))) 47 y (((mj_upI (mj_upI I 42 23 0) 47 x ((I 47 x) &&& ((1 <<< (y &&& 31)) ^^^ (-1)))) 47 y) &&& ((1 <<< (x &&& 31)) ^^^ (-1)))))) else (if (1 : Int32) = v then (0, (mj_upI (mj_upI (mj_upI I 42 23 0) 47 x ((I 47 x) ||| (1 <<< (y &&& 31)))) 47 y (((mj_upI (mj_upI I 42 23 0) 47 x ((I 47 x) ||| (1 <<< (y &&& 31)))) 47 y) ||| (1 <<< (x &&& 31))))) else (1, (mj_upI (mj_upI (mj_upI I 42 23 0) 47 x ((I 47 x) ||| (1 <<< (y &&& 31)))) 47 y (((mj_upI (mj_upI I 42 23 0) 47 x ((I 47 x) ||| (1 <<< (y &&& 31)))) 47 y) ||| (1 <<< (x &&& 31))))))) else (if (v : Int32) = 0 then (if (0 : Int32) = v then (0, (mj_upI (mj_upI (mj_upI I 42 23 0) 47 x ((I 47 x) &&& ((1 <<< (y &&& 31)) ^^^ (-1)))) 47 y (((mj_upI (mj_upI I 42 23 0) 47 x ((I 47 x) &&& ((1 <<< (y &&& 31)) ^^^ (-1)))) 47 y) &&& ((1 <<< (x &&& 31)) ^^^ (-1))))) else (1, (mj_upI (mj_upI (mj_upI I 42 23 0) 47 x ((I 47 x) &&& ((1 <<< (y &&& 31)) ^^^ (-1)))) 47 y (((mj_upI (mj_upI I 42 23 0) 47 x ((I 47 x) &&& ((1 <<< (y &&& 31)) ^^^ (-1)))) 47 y) &&& ((1 <<< (x &&& 31)) ^^^ (-1)))))) else (if (0 : Int32) = v then (0, (mj_upI (mj_upI (mj_upI I 42 23 0) 47 x ((I 47 x) ||| (1 <<< (y &&& 31)))) 47 y (((mj_upI (mj_upI I 42 23 0) 47 x ((I 47 x) ||| (1 <<< (y &&& 31)))) 47 y) ||| (1 <<< (x &&& 31))))) else (1, (mj_upI (mj_upI (mj_upI I 42 23 0) 47 x ((I 47 x) ||| (1 <<< (y &&& 31)))) 47 y (((mj_upI (mj_upI I 42 23 0) 47 x ((I 47 x) ||| (1 <<< (y &&& 31)))) 47 y) ||| (1 <<< (x &&& 31))))))))))
set_option maxHeartbeats 8000000 in
theorem x_X6_corner (l : Launch) (b base : Nat) (D : va_G) (z : mj_K × (Int32 → Int32)) (N : Nat) (x : Int32) (y : Int32) (v : Int32) (I : mj_I) (c d r : Nat) (hS : (I 42 5).toInt ≤ 6) : mj_Rn l b base D z mj_m_X6_corner 0 [.ref 42, .int x, .int y, .int v, mj_mk] [] (mj_KS N, I, mj_PP c d r) (mj_E N (some (.int (s_X6_corner x y v I).1)) (s_X6_corner x y v I).2 (mj_PP c d r)) := by
  refine R_seg (φ := []) (pc' := 2) (L' := [.ref 42, .int x, .int y, .int v, mj_mk]) (st' := [.int x, .ref 42]) (σ' := (mj_KS N, I, mj_PP c d r)) 2 rfl trivial ?_
  refine R_ce (idx := 137) (mid := 99) (kind := 0) (N := N) (M' := mj_m_X6_isStreet) (As := [.ref 42, .int x]) (rest := []) (I := I) (P := mj_PP c d r) (I' := I) (P' := mj_PP c d r) (v := some (.int (s_X6_isStreet x I))) rfl rfl rfl mj_mc99 mj_dc99 rfl rfl rfl rfl rfl rfl (x_X6_isStreet l b base D z N x I c d r) ?_
  refine R_seg (φ := []) (pc' := 5) (L' := [.ref 42, .int x, .int y, .int v, mj_mk]) (st' := [.int (s_X6_isStreet x I)]) (σ' := (mj_KS N, I, mj_PP c d r)) 0 rfl trivial ?_
  refine R_br (q := ((s_X6_isStreet x I) : Int32) = 0) (t := 21) (f := 8) (rest := []) rfl (fun h1 => ?_) (fun h1 => ?_)
  · skip
    refine R_seg (φ := []) (pc' := 22) (L' := [.ref 42, .int x, .int y, .int v, mj_mk]) (st' := [.int (-1)]) (σ' := (mj_KS N, I, mj_PP c d r)) 1 rfl trivial ?_
    exact R_ri rfl rfl (mj_leaf (by simp only [s_X6_corner, if_pos h1, Bool.false_eq_true, ↓reduceIte, Nat.reduceAdd, Nat.reduceMul, mj_tn0, mj_tn1, mj_tn2, mj_tn3]) (by simp only [s_X6_corner, if_pos h1, Bool.false_eq_true, ↓reduceIte, Nat.reduceAdd, Nat.reduceMul, mj_tn0, mj_tn1, mj_tn2, mj_tn3]))
  · skip
    refine R_seg (φ := []) (pc' := 10) (L' := [.ref 42, .int x, .int y, .int v, mj_mk]) (st' := [.int y, .ref 42]) (σ' := (mj_KS N, I, mj_PP c d r)) 2 rfl trivial ?_
    refine R_ce (idx := 137) (mid := 99) (kind := 0) (N := N) (M' := mj_m_X6_isStreet) (As := [.ref 42, .int y]) (rest := []) (I := I) (P := mj_PP c d r) (I' := I) (P' := mj_PP c d r) (v := some (.int (s_X6_isStreet y I))) rfl rfl rfl mj_mc99 mj_dc99 rfl rfl rfl rfl rfl rfl (x_X6_isStreet l b base D z N y I c d r) ?_
    refine R_seg (φ := []) (pc' := 13) (L' := [.ref 42, .int x, .int y, .int v, mj_mk]) (st' := [.int (s_X6_isStreet y I)]) (σ' := (mj_KS N, I, mj_PP c d r)) 0 rfl trivial ?_
    refine R_br (q := ((s_X6_isStreet y I) : Int32) = 0) (t := 21) (f := 16) (rest := []) rfl (fun h2 => ?_) (fun h2 => ?_)
    · skip
      refine R_seg (φ := []) (pc' := 22) (L' := [.ref 42, .int x, .int y, .int v, mj_mk]) (st' := [.int (-1)]) (σ' := (mj_KS N, I, mj_PP c d r)) 1 rfl trivial ?_
      exact R_ri rfl rfl (mj_leaf (by simp only [s_X6_corner, if_neg h1, if_pos h2, Bool.false_eq_true, ↓reduceIte, Nat.reduceAdd, Nat.reduceMul, mj_tn0, mj_tn1, mj_tn2, mj_tn3]) (by simp only [s_X6_corner, if_neg h1, if_pos h2, Bool.false_eq_true, ↓reduceIte, Nat.reduceAdd, Nat.reduceMul, mj_tn0, mj_tn1, mj_tn2, mj_tn3]))
    · skip
      refine R_seg (φ := []) (pc' := 18) (L' := [.ref 42, .int x, .int y, .int v, mj_mk]) (st' := [.int y, .int x]) (σ' := (mj_KS N, I, mj_PP c d r)) 2 rfl trivial ?_
      refine R_br (q := (x : Int32) = y) (t := 21) (f := 23) (rest := []) rfl (fun h3 => ?_) (fun h3 => ?_)
      · skip
        refine R_seg (φ := []) (pc' := 22) (L' := [.ref 42, .int x, .int y, .int v, mj_mk]) (st' := [.int (-1)]) (σ' := (mj_KS N, I, mj_PP c d r)) 1 rfl trivial ?_
        exact R_ri rfl rfl (mj_leaf (by simp only [s_X6_corner, if_neg h1, if_neg h2, if_pos h3, Bool.false_eq_true, ↓reduceIte, Nat.reduceAdd, Nat.reduceMul, mj_tn0, mj_tn1, mj_tn2, mj_tn3]) (by simp only [s_X6_corner, if_neg h1, if_neg h2, if_pos h3, Bool.false_eq_true, ↓reduceIte, Nat.reduceAdd, Nat.reduceMul, mj_tn0, mj_tn1, mj_tn2, mj_tn3]))
      · skip
        refine R_seg (φ := [mj_in x 6]) (pc' := 34) (L' := [.ref 42, .int x, .int y, .int v, mj_mk]) (st' := [.int 1, .int (((I 47 x) >>> (y &&& 31)) &&& 1)]) (σ' := (mj_KS N, I, mj_PP c d r)) 9 rfl ⟨(mj6_st h1 hS), trivial⟩ ?_
        refine R_br (q := (((I 47 x) >>> (y &&& 31)) &&& 1 : Int32) = 1) (t := 37) (f := 41) (rest := []) rfl (fun h4 => ?_) (fun h4 => ?_)
        · skip
          refine R_seg (φ := [(0 : Int32) = 0 ∨ (0 : Int32) = 1]) (pc' := 55) (L' := [.ref 42, .int x, .int y, .int v, .int 1]) (st' := [.int v, .int x, .ref 47]) (σ' := (mj_KS N, (mj_upI I 42 23 0), mj_PP c d r)) 10 rfl ⟨Or.inl rfl, trivial⟩ ?_
          refine R_br (q := (v : Int32) = 0) (t := 71) (f := 58) (rest := [.int x, .ref 47]) rfl (fun h5 => ?_) (fun h5 => ?_)
          · skip
            refine R_seg (φ := [mj_in x 6, mj_in x 6]) (pc' := 90) (L' := [.ref 42, .int x, .int y, .int v, .int 1]) (st' := [.int v, .int y, .ref 47]) (σ' := (mj_KS N, (mj_upI (mj_upI I 42 23 0) 47 x ((I 47 x) &&& ((1 <<< (y &&& 31)) ^^^ (-1)))), mj_PP c d r)) 15 rfl ⟨(mj6_st h1 hS), (mj6_st h1 hS), trivial⟩ ?_
            refine R_br (q := (v : Int32) = 0) (t := 106) (f := 93) (rest := [.int y, .ref 47]) rfl (fun h6 => ?_) (fun h6 => absurd (h5) h6)
            refine R_seg (φ := [mj_in y 6, mj_in y 6]) (pc' := 122) (L' := [.ref 42, .int x, .int y, .int v, .int 1]) (st' := [.int v, .int 1]) (σ' := (mj_KS N, (mj_upI (mj_upI (mj_upI I 42 23 0) 47 x ((I 47 x) &&& ((1 <<< (y &&& 31)) ^^^ (-1)))) 47 y (((mj_upI (mj_upI I 42 23 0) 47 x ((I 47 x) &&& ((1 <<< (y &&& 31)) ^^^ (-1)))) 47 y) &&& ((1 <<< (x &&& 31)) ^^^ (-1)))), mj_PP c d r)) 13 rfl ⟨(mj6_st h2 hS), (mj6_st h2 hS), trivial⟩ ?_
            refine R_br (q := (1 : Int32) = v) (t := 125) (f := 129) (rest := []) rfl (fun h7 => ?_) (fun h7 => ?_)
            · skip
              refine R_seg (φ := []) (pc' := 130) (L' := [.ref 42, .int x, .int y, .int v, .int 1]) (st' := [.int 0]) (σ' := (mj_KS N, (mj_upI (mj_upI (mj_upI I 42 23 0) 47 x ((I 47 x) &&& ((1 <<< (y &&& 31)) ^^^ (-1)))) 47 y (((mj_upI (mj_upI I 42 23 0) 47 x ((I 47 x) &&& ((1 <<< (y &&& 31)) ^^^ (-1)))) 47 y) &&& ((1 <<< (x &&& 31)) ^^^ (-1)))), mj_PP c d r)) 2 rfl trivial ?_
              exact R_ri rfl rfl (mj_leaf (by simp only [s_X6_corner, if_neg h1, if_neg h2, if_neg h3, if_pos h4, if_pos h5, if_pos h7, Bool.false_eq_true, ↓reduceIte, Nat.reduceAdd, Nat.reduceMul, mj_tn0, mj_tn1, mj_tn2, mj_tn3]) (by simp only [s_X6_corner, if_neg h1, if_neg h2, if_neg h3, if_pos h4, if_pos h5, if_pos h7, Bool.false_eq_true, ↓reduceIte, Nat.reduceAdd, Nat.reduceMul, mj_tn0, mj_tn1, mj_tn2, mj_tn3]))
            · skip
              refine R_seg (φ := []) (pc' := 130) (L' := [.ref 42, .int x, .int y, .int v, .int 1]) (st' := [.int 1]) (σ' := (mj_KS N, (mj_upI (mj_upI (mj_upI I 42 23 0) 47 x ((I 47 x) &&& ((1 <<< (y &&& 31)) ^^^ (-1)))) 47 y (((mj_upI (mj_upI I 42 23 0) 47 x ((I 47 x) &&& ((1 <<< (y &&& 31)) ^^^ (-1)))) 47 y) &&& ((1 <<< (x &&& 31)) ^^^ (-1)))), mj_PP c d r)) 1 rfl trivial ?_
              exact R_ri rfl rfl (mj_leaf (by simp only [s_X6_corner, if_neg h1, if_neg h2, if_neg h3, if_pos h4, if_pos h5, if_neg h7, Bool.false_eq_true, ↓reduceIte, Nat.reduceAdd, Nat.reduceMul, mj_tn0, mj_tn1, mj_tn2, mj_tn3]) (by simp only [s_X6_corner, if_neg h1, if_neg h2, if_neg h3, if_pos h4, if_pos h5, if_neg h7, Bool.false_eq_true, ↓reduceIte, Nat.reduceAdd, Nat.reduceMul, mj_tn0, mj_tn1, mj_tn2, mj_tn3]))
          · skip
            refine R_seg (φ := [mj_in x 6, mj_in x 6]) (pc' := 90) (L' := [.ref 42, .int x, .int y, .int v, .int 1]) (st' := [.int v, .int y, .ref 47]) (σ' := (mj_KS N, (mj_upI (mj_upI I 42 23 0) 47 x ((I 47 x) ||| (1 <<< (y &&& 31)))), mj_PP c d r)) 14 rfl ⟨(mj6_st h1 hS), (mj6_st h1 hS), trivial⟩ ?_
            refine R_br (q := (v : Int32) = 0) (t := 106) (f := 93) (rest := [.int y, .ref 47]) rfl (fun h8 => absurd h8 (h5)) (fun h8 => ?_)
            refine R_seg (φ := [mj_in y 6, mj_in y 6]) (pc' := 122) (L' := [.ref 42, .int x, .int y, .int v, .int 1]) (st' := [.int v, .int 1]) (σ' := (mj_KS N, (mj_upI (mj_upI (mj_upI I 42 23 0) 47 x ((I 47 x) ||| (1 <<< (y &&& 31)))) 47 y (((mj_upI (mj_upI I 42 23 0) 47 x ((I 47 x) ||| (1 <<< (y &&& 31)))) 47 y) ||| (1 <<< (x &&& 31)))), mj_PP c d r)) 12 rfl ⟨(mj6_st h2 hS), (mj6_st h2 hS), trivial⟩ ?_
            refine R_br (q := (1 : Int32) = v) (t := 125) (f := 129) (rest := []) rfl (fun h9 => ?_) (fun h9 => ?_)
            · skip
              refine R_seg (φ := []) (pc' := 130) (L' := [.ref 42, .int x, .int y, .int v, .int 1]) (st' := [.int 0]) (σ' := (mj_KS N, (mj_upI (mj_upI (mj_upI I 42 23 0) 47 x ((I 47 x) ||| (1 <<< (y &&& 31)))) 47 y (((mj_upI (mj_upI I 42 23 0) 47 x ((I 47 x) ||| (1 <<< (y &&& 31)))) 47 y) ||| (1 <<< (x &&& 31)))), mj_PP c d r)) 2 rfl trivial ?_
              exact R_ri rfl rfl (mj_leaf (by simp only [s_X6_corner, if_neg h1, if_neg h2, if_neg h3, if_pos h4, if_neg h5, if_pos h9, Bool.false_eq_true, ↓reduceIte, Nat.reduceAdd, Nat.reduceMul, mj_tn0, mj_tn1, mj_tn2, mj_tn3]) (by simp only [s_X6_corner, if_neg h1, if_neg h2, if_neg h3, if_pos h4, if_neg h5, if_pos h9, Bool.false_eq_true, ↓reduceIte, Nat.reduceAdd, Nat.reduceMul, mj_tn0, mj_tn1, mj_tn2, mj_tn3]))
            · skip
              refine R_seg (φ := []) (pc' := 130) (L' := [.ref 42, .int x, .int y, .int v, .int 1]) (st' := [.int 1]) (σ' := (mj_KS N, (mj_upI (mj_upI (mj_upI I 42 23 0) 47 x ((I 47 x) ||| (1 <<< (y &&& 31)))) 47 y (((mj_upI (mj_upI I 42 23 0) 47 x ((I 47 x) ||| (1 <<< (y &&& 31)))) 47 y) ||| (1 <<< (x &&& 31)))), mj_PP c d r)) 1 rfl trivial ?_
              exact R_ri rfl rfl (mj_leaf (by simp only [s_X6_corner, if_neg h1, if_neg h2, if_neg h3, if_pos h4, if_neg h5, if_neg h9, Bool.false_eq_true, ↓reduceIte, Nat.reduceAdd, Nat.reduceMul, mj_tn0, mj_tn1, mj_tn2, mj_tn3]) (by simp only [s_X6_corner, if_neg h1, if_neg h2, if_neg h3, if_pos h4, if_neg h5, if_neg h9, Bool.false_eq_true, ↓reduceIte, Nat.reduceAdd, Nat.reduceMul, mj_tn0, mj_tn1, mj_tn2, mj_tn3]))
        · skip
          refine R_seg (φ := [(0 : Int32) = 0 ∨ (0 : Int32) = 1]) (pc' := 55) (L' := [.ref 42, .int x, .int y, .int v, .int 0]) (st' := [.int v, .int x, .ref 47]) (σ' := (mj_KS N, (mj_upI I 42 23 0), mj_PP c d r)) 9 rfl ⟨Or.inl rfl, trivial⟩ ?_
          refine R_br (q := (v : Int32) = 0) (t := 71) (f := 58) (rest := [.int x, .ref 47]) rfl (fun h10 => ?_) (fun h10 => ?_)
          · skip
            refine R_seg (φ := [mj_in x 6, mj_in x 6]) (pc' := 90) (L' := [.ref 42, .int x, .int y, .int v, .int 0]) (st' := [.int v, .int y, .ref 47]) (σ' := (mj_KS N, (mj_upI (mj_upI I 42 23 0) 47 x ((I 47 x) &&& ((1 <<< (y &&& 31)) ^^^ (-1)))), mj_PP c d r)) 15 rfl ⟨(mj6_st h1 hS), (mj6_st h1 hS), trivial⟩ ?_
            refine R_br (q := (v : Int32) = 0) (t := 106) (f := 93) (rest := [.int y, .ref 47]) rfl (fun h11 => ?_) (fun h11 => absurd (h10) h11)
            refine R_seg (φ := [mj_in y 6, mj_in y 6]) (pc' := 122) (L' := [.ref 42, .int x, .int y, .int v, .int 0]) (st' := [.int v, .int 0]) (σ' := (mj_KS N, (mj_upI (mj_upI (mj_upI I 42 23 0) 47 x ((I 47 x) &&& ((1 <<< (y &&& 31)) ^^^ (-1)))) 47 y (((mj_upI (mj_upI I 42 23 0) 47 x ((I 47 x) &&& ((1 <<< (y &&& 31)) ^^^ (-1)))) 47 y) &&& ((1 <<< (x &&& 31)) ^^^ (-1)))), mj_PP c d r)) 13 rfl ⟨(mj6_st h2 hS), (mj6_st h2 hS), trivial⟩ ?_
            refine R_br (q := (0 : Int32) = v) (t := 125) (f := 129) (rest := []) rfl (fun h12 => ?_) (fun h12 => ?_)
            · skip
              refine R_seg (φ := []) (pc' := 130) (L' := [.ref 42, .int x, .int y, .int v, .int 0]) (st' := [.int 0]) (σ' := (mj_KS N, (mj_upI (mj_upI (mj_upI I 42 23 0) 47 x ((I 47 x) &&& ((1 <<< (y &&& 31)) ^^^ (-1)))) 47 y (((mj_upI (mj_upI I 42 23 0) 47 x ((I 47 x) &&& ((1 <<< (y &&& 31)) ^^^ (-1)))) 47 y) &&& ((1 <<< (x &&& 31)) ^^^ (-1)))), mj_PP c d r)) 2 rfl trivial ?_
              exact R_ri rfl rfl (mj_leaf (by simp only [s_X6_corner, if_neg h1, if_neg h2, if_neg h3, if_neg h4, if_pos h10, if_pos h12, Bool.false_eq_true, ↓reduceIte, Nat.reduceAdd, Nat.reduceMul, mj_tn0, mj_tn1, mj_tn2, mj_tn3]) (by simp only [s_X6_corner, if_neg h1, if_neg h2, if_neg h3, if_neg h4, if_pos h10, if_pos h12, Bool.false_eq_true, ↓reduceIte, Nat.reduceAdd, Nat.reduceMul, mj_tn0, mj_tn1, mj_tn2, mj_tn3]))
            · skip
              refine R_seg (φ := []) (pc' := 130) (L' := [.ref 42, .int x, .int y, .int v, .int 0]) (st' := [.int 1]) (σ' := (mj_KS N, (mj_upI (mj_upI (mj_upI I 42 23 0) 47 x ((I 47 x) &&& ((1 <<< (y &&& 31)) ^^^ (-1)))) 47 y (((mj_upI (mj_upI I 42 23 0) 47 x ((I 47 x) &&& ((1 <<< (y &&& 31)) ^^^ (-1)))) 47 y) &&& ((1 <<< (x &&& 31)) ^^^ (-1)))), mj_PP c d r)) 1 rfl trivial ?_
              exact R_ri rfl rfl (mj_leaf (by simp only [s_X6_corner, if_neg h1, if_neg h2, if_neg h3, if_neg h4, if_pos h10, if_neg h12, Bool.false_eq_true, ↓reduceIte, Nat.reduceAdd, Nat.reduceMul, mj_tn0, mj_tn1, mj_tn2, mj_tn3]) (by simp only [s_X6_corner, if_neg h1, if_neg h2, if_neg h3, if_neg h4, if_pos h10, if_neg h12, Bool.false_eq_true, ↓reduceIte, Nat.reduceAdd, Nat.reduceMul, mj_tn0, mj_tn1, mj_tn2, mj_tn3]))
          · skip
            refine R_seg (φ := [mj_in x 6, mj_in x 6]) (pc' := 90) (L' := [.ref 42, .int x, .int y, .int v, .int 0]) (st' := [.int v, .int y, .ref 47]) (σ' := (mj_KS N, (mj_upI (mj_upI I 42 23 0) 47 x ((I 47 x) ||| (1 <<< (y &&& 31)))), mj_PP c d r)) 14 rfl ⟨(mj6_st h1 hS), (mj6_st h1 hS), trivial⟩ ?_
            refine R_br (q := (v : Int32) = 0) (t := 106) (f := 93) (rest := [.int y, .ref 47]) rfl (fun h13 => absurd h13 (h10)) (fun h13 => ?_)
            refine R_seg (φ := [mj_in y 6, mj_in y 6]) (pc' := 122) (L' := [.ref 42, .int x, .int y, .int v, .int 0]) (st' := [.int v, .int 0]) (σ' := (mj_KS N, (mj_upI (mj_upI (mj_upI I 42 23 0) 47 x ((I 47 x) ||| (1 <<< (y &&& 31)))) 47 y (((mj_upI (mj_upI I 42 23 0) 47 x ((I 47 x) ||| (1 <<< (y &&& 31)))) 47 y) ||| (1 <<< (x &&& 31)))), mj_PP c d r)) 12 rfl ⟨(mj6_st h2 hS), (mj6_st h2 hS), trivial⟩ ?_
            refine R_br (q := (0 : Int32) = v) (t := 125) (f := 129) (rest := []) rfl (fun h14 => ?_) (fun h14 => ?_)
            · skip
              refine R_seg (φ := []) (pc' := 130) (L' := [.ref 42, .int x, .int y, .int v, .int 0]) (st' := [.int 0]) (σ' := (mj_KS N, (mj_upI (mj_upI (mj_upI I 42 23 0) 47 x ((I 47 x) ||| (1 <<< (y &&& 31)))) 47 y (((mj_upI (mj_upI I 42 23 0) 47 x ((I 47 x) ||| (1 <<< (y &&& 31)))) 47 y) ||| (1 <<< (x &&& 31)))), mj_PP c d r)) 2 rfl trivial ?_
              exact R_ri rfl rfl (mj_leaf (by simp only [s_X6_corner, if_neg h1, if_neg h2, if_neg h3, if_neg h4, if_neg h10, if_pos h14, Bool.false_eq_true, ↓reduceIte, Nat.reduceAdd, Nat.reduceMul, mj_tn0, mj_tn1, mj_tn2, mj_tn3]) (by simp only [s_X6_corner, if_neg h1, if_neg h2, if_neg h3, if_neg h4, if_neg h10, if_pos h14, Bool.false_eq_true, ↓reduceIte, Nat.reduceAdd, Nat.reduceMul, mj_tn0, mj_tn1, mj_tn2, mj_tn3]))
            · skip
              refine R_seg (φ := []) (pc' := 130) (L' := [.ref 42, .int x, .int y, .int v, .int 0]) (st' := [.int 1]) (σ' := (mj_KS N, (mj_upI (mj_upI (mj_upI I 42 23 0) 47 x ((I 47 x) ||| (1 <<< (y &&& 31)))) 47 y (((mj_upI (mj_upI I 42 23 0) 47 x ((I 47 x) ||| (1 <<< (y &&& 31)))) 47 y) ||| (1 <<< (x &&& 31)))), mj_PP c d r)) 1 rfl trivial ?_
              exact R_ri rfl rfl (mj_leaf (by simp only [s_X6_corner, if_neg h1, if_neg h2, if_neg h3, if_neg h4, if_neg h10, if_neg h14, Bool.false_eq_true, ↓reduceIte, Nat.reduceAdd, Nat.reduceMul, mj_tn0, mj_tn1, mj_tn2, mj_tn3]) (by simp only [s_X6_corner, if_neg h1, if_neg h2, if_neg h3, if_neg h4, if_neg h10, if_neg h14, Bool.false_eq_true, ↓reduceIte, Nat.reduceAdd, Nat.reduceMul, mj_tn0, mj_tn1, mj_tn2, mj_tn3]))
def s_X6_mayGo (x : Int32) (y : Int32) (I : mj_I) : Int32 := if (x : Int32) = y then 1 else (if (((I 47 x) >>> (y &&& 31)) &&& 1 : Int32) = 1 then 1 else 0)
set_option maxHeartbeats 8000000 in
theorem x_X6_mayGo (l : Launch) (b base : Nat) (D : va_G) (z : mj_K × (Int32 → Int32)) (N : Nat) (x : Int32) (y : Int32) (I : mj_I) (c d r : Nat) (hx : mj_in x 6) : mj_Rn l b base D z mj_m_X6_mayGo 0 [.ref 42, .int x, .int y] [] (mj_KS N, I, mj_PP c d r) (mj_E N (some (.int (s_X6_mayGo x y I))) I (mj_PP c d r)) := by
  refine R_seg (φ := []) (pc' := 2) (L' := [.ref 42, .int x, .int y]) (st' := [.int y, .int x]) (σ' := (mj_KS N, I, mj_PP c d r)) 2 rfl trivial ?_
  refine R_br (q := (x : Int32) = y) (t := 19) (f := 5) (rest := []) rfl (fun h1 => ?_) (fun h1 => ?_)
  · skip
    refine R_seg (φ := []) (pc' := 24) (L' := [.ref 42, .int x, .int y]) (st' := [.int 1]) (σ' := (mj_KS N, I, mj_PP c d r)) 2 rfl trivial ?_
    exact R_rb rfl rfl (Or.inr rfl) (mj_leaf (by simp only [s_X6_mayGo, if_pos h1, Bool.false_eq_true, ↓reduceIte, Nat.reduceAdd, Nat.reduceMul, mj_tn0, mj_tn1, mj_tn2, mj_tn3]) (by simp only [s_X6_mayGo, if_pos h1, Bool.false_eq_true, ↓reduceIte, Nat.reduceAdd, Nat.reduceMul, mj_tn0, mj_tn1, mj_tn2, mj_tn3]))
  · skip
    refine R_seg (φ := [mj_in x 6]) (pc' := 16) (L' := [.ref 42, .int x, .int y]) (st' := [.int 1, .int (((I 47 x) >>> (y &&& 31)) &&& 1)]) (σ' := (mj_KS N, I, mj_PP c d r)) 9 rfl ⟨hx, trivial⟩ ?_
    refine R_br (q := (((I 47 x) >>> (y &&& 31)) &&& 1 : Int32) = 1) (t := 19) (f := 23) (rest := []) rfl (fun h2 => ?_) (fun h2 => ?_)
    · skip
      refine R_seg (φ := []) (pc' := 24) (L' := [.ref 42, .int x, .int y]) (st' := [.int 1]) (σ' := (mj_KS N, I, mj_PP c d r)) 2 rfl trivial ?_
      exact R_rb rfl rfl (Or.inr rfl) (mj_leaf (by simp only [s_X6_mayGo, if_neg h1, if_pos h2, Bool.false_eq_true, ↓reduceIte, Nat.reduceAdd, Nat.reduceMul, mj_tn0, mj_tn1, mj_tn2, mj_tn3]) (by simp only [s_X6_mayGo, if_neg h1, if_pos h2, Bool.false_eq_true, ↓reduceIte, Nat.reduceAdd, Nat.reduceMul, mj_tn0, mj_tn1, mj_tn2, mj_tn3]))
    · skip
      refine R_seg (φ := []) (pc' := 24) (L' := [.ref 42, .int x, .int y]) (st' := [.int 0]) (σ' := (mj_KS N, I, mj_PP c d r)) 1 rfl trivial ?_
      exact R_rb rfl rfl (Or.inl rfl) (mj_leaf (by simp only [s_X6_mayGo, if_neg h1, if_neg h2, Bool.false_eq_true, ↓reduceIte, Nat.reduceAdd, Nat.reduceMul, mj_tn0, mj_tn1, mj_tn2, mj_tn3]) (by simp only [s_X6_mayGo, if_neg h1, if_neg h2, Bool.false_eq_true, ↓reduceIte, Nat.reduceAdd, Nat.reduceMul, mj_tn0, mj_tn1, mj_tn2, mj_tn3]))
def s_X6_colds (x : Int32) (y : Int32) (I : mj_I) : Int32 := if ((I 46 x) - (I 46 y) : Int32) < 0 then (if (2 : Int32) < -((I 46 x) - (I 46 y)) then (4 - (-((I 46 x) - (I 46 y)))) else (-((I 46 x) - (I 46 y)))) else (if (2 : Int32) < (I 46 x) - (I 46 y) then (4 - ((I 46 x) - (I 46 y))) else ((I 46 x) - (I 46 y)))
set_option maxHeartbeats 8000000 in
theorem x_X6_colds (l : Launch) (b base : Nat) (D : va_G) (z : mj_K × (Int32 → Int32)) (N : Nat) (x : Int32) (y : Int32) (I : mj_I) (c d r : Nat) (hx : mj_in x 6) (hy : mj_in y 6) : mj_Rn l b base D z mj_m_X6_colds 0 [.ref 42, .int x, .int y, mj_mk] [] (mj_KS N, I, mj_PP c d r) (mj_E N (some (.int (s_X6_colds x y I))) I (mj_PP c d r)) := by
  refine R_seg (φ := [mj_in x 6, mj_in y 6]) (pc' := 15) (L' := [.ref 42, .int x, .int y, .int ((I 46 x) - (I 46 y))]) (st' := [.int ((I 46 x) - (I 46 y))]) (σ' := (mj_KS N, I, mj_PP c d r)) 11 rfl ⟨hx, hy, trivial⟩ ?_
  refine R_br (q := ((I 46 x) - (I 46 y) : Int32) < 0) (t := 18) (f := 23) (rest := []) rfl (fun h1 => ?_) (fun h1 => ?_)
  · skip
    refine R_seg (φ := []) (pc' := 27) (L' := [.ref 42, .int x, .int y, .int (-((I 46 x) - (I 46 y)))]) (st' := [.int 2, .int (-((I 46 x) - (I 46 y)))]) (σ' := (mj_KS N, I, mj_PP c d r)) 6 rfl trivial ?_
    refine R_br (q := (2 : Int32) < -((I 46 x) - (I 46 y))) (t := 30) (f := 36) (rest := []) rfl (fun h2 => ?_) (fun h2 => ?_)
    · skip
      refine R_seg (φ := []) (pc' := 37) (L' := [.ref 42, .int x, .int y, .int (-((I 46 x) - (I 46 y)))]) (st' := [.int (4 - (-((I 46 x) - (I 46 y))))]) (σ' := (mj_KS N, I, mj_PP c d r)) 4 rfl trivial ?_
      exact R_ri rfl rfl (mj_leaf (by simp only [s_X6_colds, if_pos h1, if_pos h2, Bool.false_eq_true, ↓reduceIte, Nat.reduceAdd, Nat.reduceMul, mj_tn0, mj_tn1, mj_tn2, mj_tn3]) (by simp only [s_X6_colds, if_pos h1, if_pos h2, Bool.false_eq_true, ↓reduceIte, Nat.reduceAdd, Nat.reduceMul, mj_tn0, mj_tn1, mj_tn2, mj_tn3]))
    · skip
      refine R_seg (φ := []) (pc' := 37) (L' := [.ref 42, .int x, .int y, .int (-((I 46 x) - (I 46 y)))]) (st' := [.int (-((I 46 x) - (I 46 y)))]) (σ' := (mj_KS N, I, mj_PP c d r)) 1 rfl trivial ?_
      exact R_ri rfl rfl (mj_leaf (by simp only [s_X6_colds, if_pos h1, if_neg h2, Bool.false_eq_true, ↓reduceIte, Nat.reduceAdd, Nat.reduceMul, mj_tn0, mj_tn1, mj_tn2, mj_tn3]) (by simp only [s_X6_colds, if_pos h1, if_neg h2, Bool.false_eq_true, ↓reduceIte, Nat.reduceAdd, Nat.reduceMul, mj_tn0, mj_tn1, mj_tn2, mj_tn3]))
  · skip
    refine R_seg (φ := []) (pc' := 27) (L' := [.ref 42, .int x, .int y, .int ((I 46 x) - (I 46 y))]) (st' := [.int 2, .int ((I 46 x) - (I 46 y))]) (σ' := (mj_KS N, I, mj_PP c d r)) 4 rfl trivial ?_
    refine R_br (q := (2 : Int32) < (I 46 x) - (I 46 y)) (t := 30) (f := 36) (rest := []) rfl (fun h3 => ?_) (fun h3 => ?_)
    · skip
      refine R_seg (φ := []) (pc' := 37) (L' := [.ref 42, .int x, .int y, .int ((I 46 x) - (I 46 y))]) (st' := [.int (4 - ((I 46 x) - (I 46 y)))]) (σ' := (mj_KS N, I, mj_PP c d r)) 4 rfl trivial ?_
      exact R_ri rfl rfl (mj_leaf (by simp only [s_X6_colds, if_neg h1, if_pos h3, Bool.false_eq_true, ↓reduceIte, Nat.reduceAdd, Nat.reduceMul, mj_tn0, mj_tn1, mj_tn2, mj_tn3]) (by simp only [s_X6_colds, if_neg h1, if_pos h3, Bool.false_eq_true, ↓reduceIte, Nat.reduceAdd, Nat.reduceMul, mj_tn0, mj_tn1, mj_tn2, mj_tn3]))
    · skip
      refine R_seg (φ := []) (pc' := 37) (L' := [.ref 42, .int x, .int y, .int ((I 46 x) - (I 46 y))]) (st' := [.int ((I 46 x) - (I 46 y))]) (σ' := (mj_KS N, I, mj_PP c d r)) 1 rfl trivial ?_
      exact R_ri rfl rfl (mj_leaf (by simp only [s_X6_colds, if_neg h1, if_neg h3, Bool.false_eq_true, ↓reduceIte, Nat.reduceAdd, Nat.reduceMul, mj_tn0, mj_tn1, mj_tn2, mj_tn3]) (by simp only [s_X6_colds, if_neg h1, if_neg h3, Bool.false_eq_true, ↓reduceIte, Nat.reduceAdd, Nat.reduceMul, mj_tn0, mj_tn1, mj_tn2, mj_tn3]))
def s_X6_onBy (q : Int32) (g : Int32) (e : Int32) (I : mj_I) : Int32 := if (g : Int32) = 6 then 6 else (if (e : Int32) = I 49 ((3 * q) + (g / 2)) then (if (I 48 q : Int32) = 1 then (g + 1) else (g + 2)) else (if (I 48 q : Int32) = 2 then (if (e : Int32) = ((I 49 ((3 * q) + (g / 2))) + 1) - ((I 49 ((3 * q) + (g / 2))) + 1) / 4 * 4 then (if (I 48 q : Int32) = 1 then (g + 1) else (g + 2)) else (if (I 48 q : Int32) = 1 then ((g / 2) * 2) else g)) else (if (I 48 q : Int32) = 1 then ((g / 2) * 2) else g)))
set_option maxHeartbeats 8000000 in
theorem x_X6_onBy (l : Launch) (b base : Nat) (D : va_G) (z : mj_K × (Int32 → Int32)) (N : Nat) (q : Int32) (g : Int32) (e : Int32) (I : mj_I) (c d r : Nat) (hq : mj_in q 3) (hg : mj_in g 7) : mj_Rn l b base D z mj_m_X6_onBy 0 [.ref 42, .int q, .int g, .int e, mj_mk, mj_mk] [] (mj_KS N, I, mj_PP c d r) (mj_E N (some (.int (s_X6_onBy q g e I))) I (mj_PP c d r)) := by
  refine R_seg (φ := []) (pc' := 3) (L' := [.ref 42, .int q, .int g, .int e, mj_mk, mj_mk]) (st' := [.int 6, .int g]) (σ' := (mj_KS N, I, mj_PP c d r)) 2 rfl trivial ?_
  refine R_br (q := (g : Int32) = 6) (t := 6) (f := 9) (rest := []) rfl (fun h1 => ?_) (fun h1 => ?_)
  · skip
    refine R_seg (φ := []) (pc' := 8) (L' := [.ref 42, .int q, .int g, .int e, mj_mk, mj_mk]) (st' := [.int 6]) (σ' := (mj_KS N, I, mj_PP c d r)) 1 rfl trivial ?_
    exact R_ri rfl rfl (mj_leaf (by simp only [s_X6_onBy, if_pos h1, Bool.false_eq_true, ↓reduceIte, Nat.reduceAdd, Nat.reduceMul, mj_tn0, mj_tn1, mj_tn2, mj_tn3]) (by simp only [s_X6_onBy, if_pos h1, Bool.false_eq_true, ↓reduceIte, Nat.reduceAdd, Nat.reduceMul, mj_tn0, mj_tn1, mj_tn2, mj_tn3]))
  · skip
    refine R_seg (φ := [¬ (2 : Int32) = 0, mj_in ((3 * q) + (g / 2)) 9]) (pc' := 26) (L' := [.ref 42, .int q, .int g, .int e, .int (I 49 ((3 * q) + (g / 2))), mj_mk]) (st' := [.int (I 49 ((3 * q) + (g / 2))), .int e]) (σ' := (mj_KS N, I, mj_PP c d r)) 13 rfl ⟨by decide, (mj6_w3 hq (mj6_hf hg h1)), trivial⟩ ?_
    refine R_br (q := (e : Int32) = I 49 ((3 * q) + (g / 2))) (t := 49) (f := 29) (rest := []) rfl (fun h2 => ?_) (fun h2 => ?_)
    · skip
      refine R_seg (φ := [mj_in q 3]) (pc' := 63) (L' := [.ref 42, .int q, .int g, .int e, .int (I 49 ((3 * q) + (g / 2))), .int 1]) (st' := [.int 1, .int (I 48 q)]) (σ' := (mj_KS N, I, mj_PP c d r)) 8 rfl ⟨hq, trivial⟩ ?_
      refine R_br (q := (I 48 q : Int32) = 1) (t := 66) (f := 83) (rest := []) rfl (fun h3 => ?_) (fun h3 => ?_)
      · skip
        refine R_seg (φ := []) (pc' := 68) (L' := [.ref 42, .int q, .int g, .int e, .int (I 49 ((3 * q) + (g / 2))), .int 1]) (st' := [.int 1]) (σ' := (mj_KS N, I, mj_PP c d r)) 1 rfl trivial ?_
        refine R_br (q := (1 : Int32) = 0) (t := 77) (f := 71) (rest := []) rfl (fun h4 => absurd h4 (by decide)) (fun h4 => ?_)
        refine R_seg (φ := []) (pc' := 82) (L' := [.ref 42, .int q, .int g, .int e, .int (I 49 ((3 * q) + (g / 2))), .int 1]) (st' := [.int (g + 1)]) (σ' := (mj_KS N, I, mj_PP c d r)) 4 rfl trivial ?_
        exact R_ri rfl rfl (mj_leaf (by simp only [s_X6_onBy, if_neg h1, if_pos h2, if_pos h3, Bool.false_eq_true, ↓reduceIte, Nat.reduceAdd, Nat.reduceMul, mj_tn0, mj_tn1, mj_tn2, mj_tn3]) (by simp only [s_X6_onBy, if_neg h1, if_pos h2, if_pos h3, Bool.false_eq_true, ↓reduceIte, Nat.reduceAdd, Nat.reduceMul, mj_tn0, mj_tn1, mj_tn2, mj_tn3]))
      · skip
        refine R_seg (φ := []) (pc' := 85) (L' := [.ref 42, .int q, .int g, .int e, .int (I 49 ((3 * q) + (g / 2))), .int 1]) (st' := [.int 1]) (σ' := (mj_KS N, I, mj_PP c d r)) 1 rfl trivial ?_
        refine R_br (q := (1 : Int32) = 0) (t := 94) (f := 88) (rest := []) rfl (fun h5 => absurd h5 (by decide)) (fun h5 => ?_)
        refine R_seg (φ := []) (pc' := 95) (L' := [.ref 42, .int q, .int g, .int e, .int (I 49 ((3 * q) + (g / 2))), .int 1]) (st' := [.int (g + 2)]) (σ' := (mj_KS N, I, mj_PP c d r)) 4 rfl trivial ?_
        exact R_ri rfl rfl (mj_leaf (by simp only [s_X6_onBy, if_neg h1, if_pos h2, if_neg h3, Bool.false_eq_true, ↓reduceIte, Nat.reduceAdd, Nat.reduceMul, mj_tn0, mj_tn1, mj_tn2, mj_tn3]) (by simp only [s_X6_onBy, if_neg h1, if_pos h2, if_neg h3, Bool.false_eq_true, ↓reduceIte, Nat.reduceAdd, Nat.reduceMul, mj_tn0, mj_tn1, mj_tn2, mj_tn3]))
    · skip
      refine R_seg (φ := [mj_in q 3]) (pc' := 36) (L' := [.ref 42, .int q, .int g, .int e, .int (I 49 ((3 * q) + (g / 2))), mj_mk]) (st' := [.int 2, .int (I 48 q)]) (σ' := (mj_KS N, I, mj_PP c d r)) 5 rfl ⟨hq, trivial⟩ ?_
      refine R_br (q := (I 48 q : Int32) = 2) (t := 39) (f := 53) (rest := []) rfl (fun h6 => ?_) (fun h6 => ?_)
      · skip
        refine R_seg (φ := [¬ (4 : Int32) = 0]) (pc' := 46) (L' := [.ref 42, .int q, .int g, .int e, .int (I 49 ((3 * q) + (g / 2))), mj_mk]) (st' := [.int (((I 49 ((3 * q) + (g / 2))) + 1) - ((I 49 ((3 * q) + (g / 2))) + 1) / 4 * 4), .int e]) (σ' := (mj_KS N, I, mj_PP c d r)) 6 rfl ⟨by decide, trivial⟩ ?_
        refine R_br (q := (e : Int32) = ((I 49 ((3 * q) + (g / 2))) + 1) - ((I 49 ((3 * q) + (g / 2))) + 1) / 4 * 4) (t := 49) (f := 53) (rest := []) rfl (fun h7 => ?_) (fun h7 => ?_)
        · skip
          refine R_seg (φ := [mj_in q 3]) (pc' := 63) (L' := [.ref 42, .int q, .int g, .int e, .int (I 49 ((3 * q) + (g / 2))), .int 1]) (st' := [.int 1, .int (I 48 q)]) (σ' := (mj_KS N, I, mj_PP c d r)) 8 rfl ⟨hq, trivial⟩ ?_
          refine R_br (q := (I 48 q : Int32) = 1) (t := 66) (f := 83) (rest := []) rfl (fun h8 => ?_) (fun h8 => ?_)
          · skip
            refine R_seg (φ := []) (pc' := 68) (L' := [.ref 42, .int q, .int g, .int e, .int (I 49 ((3 * q) + (g / 2))), .int 1]) (st' := [.int 1]) (σ' := (mj_KS N, I, mj_PP c d r)) 1 rfl trivial ?_
            refine R_br (q := (1 : Int32) = 0) (t := 77) (f := 71) (rest := []) rfl (fun h9 => absurd h9 (by decide)) (fun h9 => ?_)
            refine R_seg (φ := []) (pc' := 82) (L' := [.ref 42, .int q, .int g, .int e, .int (I 49 ((3 * q) + (g / 2))), .int 1]) (st' := [.int (g + 1)]) (σ' := (mj_KS N, I, mj_PP c d r)) 4 rfl trivial ?_
            exact R_ri rfl rfl (mj_leaf (by simp only [s_X6_onBy, if_neg h1, if_neg h2, if_pos h6, if_pos h7, if_pos h8, Bool.false_eq_true, ↓reduceIte, Nat.reduceAdd, Nat.reduceMul, mj_tn0, mj_tn1, mj_tn2, mj_tn3]) (by simp only [s_X6_onBy, if_neg h1, if_neg h2, if_pos h6, if_pos h7, if_pos h8, Bool.false_eq_true, ↓reduceIte, Nat.reduceAdd, Nat.reduceMul, mj_tn0, mj_tn1, mj_tn2, mj_tn3]))
          · skip
            refine R_seg (φ := []) (pc' := 85) (L' := [.ref 42, .int q, .int g, .int e, .int (I 49 ((3 * q) + (g / 2))), .int 1]) (st' := [.int 1]) (σ' := (mj_KS N, I, mj_PP c d r)) 1 rfl trivial ?_
            refine R_br (q := (1 : Int32) = 0) (t := 94) (f := 88) (rest := []) rfl (fun h10 => absurd h10 (by decide)) (fun h10 => ?_)
            refine R_seg (φ := []) (pc' := 95) (L' := [.ref 42, .int q, .int g, .int e, .int (I 49 ((3 * q) + (g / 2))), .int 1]) (st' := [.int (g + 2)]) (σ' := (mj_KS N, I, mj_PP c d r)) 4 rfl trivial ?_
            exact R_ri rfl rfl (mj_leaf (by simp only [s_X6_onBy, if_neg h1, if_neg h2, if_pos h6, if_pos h7, if_neg h8, Bool.false_eq_true, ↓reduceIte, Nat.reduceAdd, Nat.reduceMul, mj_tn0, mj_tn1, mj_tn2, mj_tn3]) (by simp only [s_X6_onBy, if_neg h1, if_neg h2, if_pos h6, if_pos h7, if_neg h8, Bool.false_eq_true, ↓reduceIte, Nat.reduceAdd, Nat.reduceMul, mj_tn0, mj_tn1, mj_tn2, mj_tn3]))
        · skip
          refine R_seg (φ := [mj_in q 3]) (pc' := 63) (L' := [.ref 42, .int q, .int g, .int e, .int (I 49 ((3 * q) + (g / 2))), .int 0]) (st' := [.int 1, .int (I 48 q)]) (σ' := (mj_KS N, I, mj_PP c d r)) 7 rfl ⟨hq, trivial⟩ ?_
          refine R_br (q := (I 48 q : Int32) = 1) (t := 66) (f := 83) (rest := []) rfl (fun h11 => ?_) (fun h11 => ?_)
          · skip
            refine R_seg (φ := []) (pc' := 68) (L' := [.ref 42, .int q, .int g, .int e, .int (I 49 ((3 * q) + (g / 2))), .int 0]) (st' := [.int 0]) (σ' := (mj_KS N, I, mj_PP c d r)) 1 rfl trivial ?_
            refine R_br (q := (0 : Int32) = 0) (t := 77) (f := 71) (rest := []) rfl (fun h12 => ?_) (fun h12 => absurd (by decide) h12)
            refine R_seg (φ := [¬ (2 : Int32) = 0]) (pc' := 82) (L' := [.ref 42, .int q, .int g, .int e, .int (I 49 ((3 * q) + (g / 2))), .int 0]) (st' := [.int ((g / 2) * 2)]) (σ' := (mj_KS N, I, mj_PP c d r)) 5 rfl ⟨by decide, trivial⟩ ?_
            exact R_ri rfl rfl (mj_leaf (by simp only [s_X6_onBy, if_neg h1, if_neg h2, if_pos h6, if_neg h7, if_pos h11, Bool.false_eq_true, ↓reduceIte, Nat.reduceAdd, Nat.reduceMul, mj_tn0, mj_tn1, mj_tn2, mj_tn3]) (by simp only [s_X6_onBy, if_neg h1, if_neg h2, if_pos h6, if_neg h7, if_pos h11, Bool.false_eq_true, ↓reduceIte, Nat.reduceAdd, Nat.reduceMul, mj_tn0, mj_tn1, mj_tn2, mj_tn3]))
          · skip
            refine R_seg (φ := []) (pc' := 85) (L' := [.ref 42, .int q, .int g, .int e, .int (I 49 ((3 * q) + (g / 2))), .int 0]) (st' := [.int 0]) (σ' := (mj_KS N, I, mj_PP c d r)) 1 rfl trivial ?_
            refine R_br (q := (0 : Int32) = 0) (t := 94) (f := 88) (rest := []) rfl (fun h13 => ?_) (fun h13 => absurd (by decide) h13)
            refine R_seg (φ := []) (pc' := 95) (L' := [.ref 42, .int q, .int g, .int e, .int (I 49 ((3 * q) + (g / 2))), .int 0]) (st' := [.int g]) (σ' := (mj_KS N, I, mj_PP c d r)) 1 rfl trivial ?_
            exact R_ri rfl rfl (mj_leaf (by simp only [s_X6_onBy, if_neg h1, if_neg h2, if_pos h6, if_neg h7, if_neg h11, Bool.false_eq_true, ↓reduceIte, Nat.reduceAdd, Nat.reduceMul, mj_tn0, mj_tn1, mj_tn2, mj_tn3]) (by simp only [s_X6_onBy, if_neg h1, if_neg h2, if_pos h6, if_neg h7, if_neg h11, Bool.false_eq_true, ↓reduceIte, Nat.reduceAdd, Nat.reduceMul, mj_tn0, mj_tn1, mj_tn2, mj_tn3]))
      · skip
        refine R_seg (φ := [mj_in q 3]) (pc' := 63) (L' := [.ref 42, .int q, .int g, .int e, .int (I 49 ((3 * q) + (g / 2))), .int 0]) (st' := [.int 1, .int (I 48 q)]) (σ' := (mj_KS N, I, mj_PP c d r)) 7 rfl ⟨hq, trivial⟩ ?_
        refine R_br (q := (I 48 q : Int32) = 1) (t := 66) (f := 83) (rest := []) rfl (fun h14 => ?_) (fun h14 => ?_)
        · skip
          refine R_seg (φ := []) (pc' := 68) (L' := [.ref 42, .int q, .int g, .int e, .int (I 49 ((3 * q) + (g / 2))), .int 0]) (st' := [.int 0]) (σ' := (mj_KS N, I, mj_PP c d r)) 1 rfl trivial ?_
          refine R_br (q := (0 : Int32) = 0) (t := 77) (f := 71) (rest := []) rfl (fun h15 => ?_) (fun h15 => absurd (by decide) h15)
          refine R_seg (φ := [¬ (2 : Int32) = 0]) (pc' := 82) (L' := [.ref 42, .int q, .int g, .int e, .int (I 49 ((3 * q) + (g / 2))), .int 0]) (st' := [.int ((g / 2) * 2)]) (σ' := (mj_KS N, I, mj_PP c d r)) 5 rfl ⟨by decide, trivial⟩ ?_
          exact R_ri rfl rfl (mj_leaf (by simp only [s_X6_onBy, if_neg h1, if_neg h2, if_neg h6, if_pos h14, Bool.false_eq_true, ↓reduceIte, Nat.reduceAdd, Nat.reduceMul, mj_tn0, mj_tn1, mj_tn2, mj_tn3]) (by simp only [s_X6_onBy, if_neg h1, if_neg h2, if_neg h6, if_pos h14, Bool.false_eq_true, ↓reduceIte, Nat.reduceAdd, Nat.reduceMul, mj_tn0, mj_tn1, mj_tn2, mj_tn3]))
        · skip
          refine R_seg (φ := []) (pc' := 85) (L' := [.ref 42, .int q, .int g, .int e, .int (I 49 ((3 * q) + (g / 2))), .int 0]) (st' := [.int 0]) (σ' := (mj_KS N, I, mj_PP c d r)) 1 rfl trivial ?_
          refine R_br (q := (0 : Int32) = 0) (t := 94) (f := 88) (rest := []) rfl (fun h16 => ?_) (fun h16 => absurd (by decide) h16)
          refine R_seg (φ := []) (pc' := 95) (L' := [.ref 42, .int q, .int g, .int e, .int (I 49 ((3 * q) + (g / 2))), .int 0]) (st' := [.int g]) (σ' := (mj_KS N, I, mj_PP c d r)) 1 rfl trivial ?_
          exact R_ri rfl rfl (mj_leaf (by simp only [s_X6_onBy, if_neg h1, if_neg h2, if_neg h6, if_neg h14, Bool.false_eq_true, ↓reduceIte, Nat.reduceAdd, Nat.reduceMul, mj_tn0, mj_tn1, mj_tn2, mj_tn3]) (by simp only [s_X6_onBy, if_neg h1, if_neg h2, if_neg h6, if_neg h14, Bool.false_eq_true, ↓reduceIte, Nat.reduceAdd, Nat.reduceMul, mj_tn0, mj_tn1, mj_tn2, mj_tn3]))
def s_X6_tell (q : Int32) (I : mj_I) : Int32 × mj_I := if ((s_X6_isPlant q I) : Int32) = 0 then ((-1), I) else (if (I 48 q : Int32) = 1 then ((I 49 (3 * q)) + 100, (s_X6_begins 1 (s_X6_begins 2 I))) else (if (I 48 q : Int32) = 2 then ((2 * (I 49 (3 * q))) + 100, (s_X6_begins 1 (s_X6_begins 1 (s_X6_begins 2 (s_X6_begins 3 I))))) else (I 49 (3 * q), (s_X6_begins 1 I))))
set_option maxHeartbeats 8000000 in
theorem x_X6_tell (l : Launch) (b base : Nat) (D : va_G) (z : mj_K × (Int32 → Int32)) (N : Nat) (q : Int32) (I : mj_I) (c d r : Nat) (hP : (I 42 6).toInt ≤ 3) : mj_Rn l b base D z mj_m_X6_tell 0 [.ref 42, .int q, mj_mk] [] (mj_KS N, I, mj_PP c d r) (mj_E N (some (.int (s_X6_tell q I).1)) (s_X6_tell q I).2 (mj_PP c d r)) := by
  refine R_seg (φ := []) (pc' := 2) (L' := [.ref 42, .int q, mj_mk]) (st' := [.int q, .ref 42]) (σ' := (mj_KS N, I, mj_PP c d r)) 2 rfl trivial ?_
  refine R_ce (idx := 140) (mid := 100) (kind := 0) (N := N) (M' := mj_m_X6_isPlant) (As := [.ref 42, .int q]) (rest := []) (I := I) (P := mj_PP c d r) (I' := I) (P' := mj_PP c d r) (v := some (.int (s_X6_isPlant q I))) rfl rfl rfl mj_mc100 mj_dc100 rfl rfl rfl rfl rfl rfl (x_X6_isPlant l b base D z N q I c d r) ?_
  refine R_seg (φ := []) (pc' := 5) (L' := [.ref 42, .int q, mj_mk]) (st' := [.int (s_X6_isPlant q I)]) (σ' := (mj_KS N, I, mj_PP c d r)) 0 rfl trivial ?_
  refine R_br (q := ((s_X6_isPlant q I) : Int32) = 0) (t := 8) (f := 10) (rest := []) rfl (fun h1 => ?_) (fun h1 => ?_)
  · skip
    refine R_seg (φ := []) (pc' := 9) (L' := [.ref 42, .int q, mj_mk]) (st' := [.int (-1)]) (σ' := (mj_KS N, I, mj_PP c d r)) 1 rfl trivial ?_
    exact R_ri rfl rfl (mj_leaf (by simp only [s_X6_tell, if_pos h1, Bool.false_eq_true, ↓reduceIte, Nat.reduceAdd, Nat.reduceMul, mj_tn0, mj_tn1, mj_tn2, mj_tn3]) (by simp only [s_X6_tell, if_pos h1, Bool.false_eq_true, ↓reduceIte, Nat.reduceAdd, Nat.reduceMul, mj_tn0, mj_tn1, mj_tn2, mj_tn3]))
  · skip
    refine R_seg (φ := [mj_in (3 * q) 9, mj_in q 3]) (pc' := 25) (L' := [.ref 42, .int q, .int (I 49 (3 * q))]) (st' := [.int (I 48 q)]) (σ' := (mj_KS N, I, mj_PP c d r)) 11 rfl ⟨(mj6_w30 (mj6_pl h1 hP)), (mj6_pl h1 hP), trivial⟩ ?_
    by_cases h2 : (I 48 q : Int32) = 1
    · refine R_stk h2 ?_
      refine R_seg (φ := []) (pc' := 52) (L' := [.ref 42, .int q, .int (I 49 (3 * q))]) (st' := []) (σ' := (mj_KS N, I, mj_PP c d r)) 1 rfl trivial ?_
      refine R_seg (φ := []) (pc' := 54) (L' := [.ref 42, .int q, .int (I 49 (3 * q))]) (st' := [.int 2, .ref 42]) (σ' := (mj_KS N, I, mj_PP c d r)) 2 rfl trivial ?_
      refine R_ce (idx := 225) (mid := 149) (kind := 0) (N := N) (M' := mj_m_X6_begins) (As := [.ref 42, .int 2]) (rest := []) (I := I) (P := mj_PP c d r) (I' := (s_X6_begins 2 I)) (P' := mj_PP c d r) (v := none) rfl rfl rfl mj_mc149 mj_dc149 rfl rfl rfl rfl rfl rfl (x_X6_begins l b base D z N 2 I c d r) ?_
      refine R_seg (φ := []) (pc' := 59) (L' := [.ref 42, .int q, .int (I 49 (3 * q))]) (st' := [.int 1, .ref 42]) (σ' := (mj_KS N, (s_X6_begins 2 I), mj_PP c d r)) 2 rfl trivial ?_
      refine R_ce (idx := 225) (mid := 149) (kind := 0) (N := N) (M' := mj_m_X6_begins) (As := [.ref 42, .int 1]) (rest := []) (I := (s_X6_begins 2 I)) (P := mj_PP c d r) (I' := (s_X6_begins 1 (s_X6_begins 2 I))) (P' := mj_PP c d r) (v := none) rfl rfl rfl mj_mc149 mj_dc149 rfl rfl rfl rfl rfl rfl (x_X6_begins l b base D z N 1 (s_X6_begins 2 I) c d r) ?_
      refine R_seg (φ := []) (pc' := 66) (L' := [.ref 42, .int q, .int (I 49 (3 * q))]) (st' := [.int ((I 49 (3 * q)) + 100)]) (σ' := (mj_KS N, (s_X6_begins 1 (s_X6_begins 2 I)), mj_PP c d r)) 3 rfl trivial ?_
      exact R_ri rfl rfl (mj_leaf (by simp only [s_X6_tell, if_neg h1, if_pos h2, Bool.false_eq_true, ↓reduceIte, Nat.reduceAdd, Nat.reduceMul, mj_tn0, mj_tn1, mj_tn2, mj_tn3]) (by simp only [s_X6_tell, if_neg h1, if_pos h2, Bool.false_eq_true, ↓reduceIte, Nat.reduceAdd, Nat.reduceMul, mj_tn0, mj_tn1, mj_tn2, mj_tn3]))
    by_cases h3 : (I 48 q : Int32) = 2
    · refine R_stk h3 ?_
      refine R_seg (φ := []) (pc' := 67) (L' := [.ref 42, .int q, .int (I 49 (3 * q))]) (st' := []) (σ' := (mj_KS N, I, mj_PP c d r)) 1 rfl trivial ?_
      refine R_seg (φ := []) (pc' := 69) (L' := [.ref 42, .int q, .int (I 49 (3 * q))]) (st' := [.int 3, .ref 42]) (σ' := (mj_KS N, I, mj_PP c d r)) 2 rfl trivial ?_
      refine R_ce (idx := 225) (mid := 149) (kind := 0) (N := N) (M' := mj_m_X6_begins) (As := [.ref 42, .int 3]) (rest := []) (I := I) (P := mj_PP c d r) (I' := (s_X6_begins 3 I)) (P' := mj_PP c d r) (v := none) rfl rfl rfl mj_mc149 mj_dc149 rfl rfl rfl rfl rfl rfl (x_X6_begins l b base D z N 3 I c d r) ?_
      refine R_seg (φ := []) (pc' := 74) (L' := [.ref 42, .int q, .int (I 49 (3 * q))]) (st' := [.int 2, .ref 42]) (σ' := (mj_KS N, (s_X6_begins 3 I), mj_PP c d r)) 2 rfl trivial ?_
      refine R_ce (idx := 225) (mid := 149) (kind := 0) (N := N) (M' := mj_m_X6_begins) (As := [.ref 42, .int 2]) (rest := []) (I := (s_X6_begins 3 I)) (P := mj_PP c d r) (I' := (s_X6_begins 2 (s_X6_begins 3 I))) (P' := mj_PP c d r) (v := none) rfl rfl rfl mj_mc149 mj_dc149 rfl rfl rfl rfl rfl rfl (x_X6_begins l b base D z N 2 (s_X6_begins 3 I) c d r) ?_
      refine R_seg (φ := []) (pc' := 79) (L' := [.ref 42, .int q, .int (I 49 (3 * q))]) (st' := [.int 1, .ref 42]) (σ' := (mj_KS N, (s_X6_begins 2 (s_X6_begins 3 I)), mj_PP c d r)) 2 rfl trivial ?_
      refine R_ce (idx := 225) (mid := 149) (kind := 0) (N := N) (M' := mj_m_X6_begins) (As := [.ref 42, .int 1]) (rest := []) (I := (s_X6_begins 2 (s_X6_begins 3 I))) (P := mj_PP c d r) (I' := (s_X6_begins 1 (s_X6_begins 2 (s_X6_begins 3 I)))) (P' := mj_PP c d r) (v := none) rfl rfl rfl mj_mc149 mj_dc149 rfl rfl rfl rfl rfl rfl (x_X6_begins l b base D z N 1 (s_X6_begins 2 (s_X6_begins 3 I)) c d r) ?_
      refine R_seg (φ := []) (pc' := 84) (L' := [.ref 42, .int q, .int (I 49 (3 * q))]) (st' := [.int 1, .ref 42]) (σ' := (mj_KS N, (s_X6_begins 1 (s_X6_begins 2 (s_X6_begins 3 I))), mj_PP c d r)) 2 rfl trivial ?_
      refine R_ce (idx := 225) (mid := 149) (kind := 0) (N := N) (M' := mj_m_X6_begins) (As := [.ref 42, .int 1]) (rest := []) (I := (s_X6_begins 1 (s_X6_begins 2 (s_X6_begins 3 I)))) (P := mj_PP c d r) (I' := (s_X6_begins 1 (s_X6_begins 1 (s_X6_begins 2 (s_X6_begins 3 I))))) (P' := mj_PP c d r) (v := none) rfl rfl rfl mj_mc149 mj_dc149 rfl rfl rfl rfl rfl rfl (x_X6_begins l b base D z N 1 (s_X6_begins 1 (s_X6_begins 2 (s_X6_begins 3 I))) c d r) ?_
      refine R_seg (φ := []) (pc' := 93) (L' := [.ref 42, .int q, .int (I 49 (3 * q))]) (st' := [.int ((2 * (I 49 (3 * q))) + 100)]) (σ' := (mj_KS N, (s_X6_begins 1 (s_X6_begins 1 (s_X6_begins 2 (s_X6_begins 3 I)))), mj_PP c d r)) 5 rfl trivial ?_
      exact R_ri rfl rfl (mj_leaf (by simp only [s_X6_tell, if_neg h1, if_neg h2, if_pos h3, Bool.false_eq_true, ↓reduceIte, Nat.reduceAdd, Nat.reduceMul, mj_tn0, mj_tn1, mj_tn2, mj_tn3]) (by simp only [s_X6_tell, if_neg h1, if_neg h2, if_pos h3, Bool.false_eq_true, ↓reduceIte, Nat.reduceAdd, Nat.reduceMul, mj_tn0, mj_tn1, mj_tn2, mj_tn3]))
    refine R_lsd rfl rfl (by rw [lv_osw (k := 1) h2 (by decide), lv_osw (k := 2) h3 (by decide)]; rfl) rfl ?_
    refine R_seg (φ := []) (pc' := 96) (L' := [.ref 42, .int q, .int (I 49 (3 * q))]) (st' := [.int 1, .ref 42]) (σ' := (mj_KS N, I, mj_PP c d r)) 2 rfl trivial ?_
    refine R_ce (idx := 225) (mid := 149) (kind := 0) (N := N) (M' := mj_m_X6_begins) (As := [.ref 42, .int 1]) (rest := []) (I := I) (P := mj_PP c d r) (I' := (s_X6_begins 1 I)) (P' := mj_PP c d r) (v := none) rfl rfl rfl mj_mc149 mj_dc149 rfl rfl rfl rfl rfl rfl (x_X6_begins l b base D z N 1 I c d r) ?_
    refine R_seg (φ := []) (pc' := 100) (L' := [.ref 42, .int q, .int (I 49 (3 * q))]) (st' := [.int (I 49 (3 * q))]) (σ' := (mj_KS N, (s_X6_begins 1 I), mj_PP c d r)) 1 rfl trivial ?_
    exact R_ri rfl rfl (mj_leaf (by simp only [s_X6_tell, if_neg h1, if_neg h2, if_neg h3, Bool.false_eq_true, ↓reduceIte, Nat.reduceAdd, Nat.reduceMul, mj_tn0, mj_tn1, mj_tn2, mj_tn3]) (by simp only [s_X6_tell, if_neg h1, if_neg h2, if_neg h3, Bool.false_eq_true, ↓reduceIte, Nat.reduceAdd, Nat.reduceMul, mj_tn0, mj_tn1, mj_tn2, mj_tn3]))
def s_X6_label (q : Int32) (I : mj_I) : Int32 × mj_I := if ((s_X6_isPlant q I) : Int32) = 0 then ((-1), I) else (if (I 48 q : Int32) = 2 then (if ((s_X6_begins 5 I) 48 q : Int32) = 2 then (30, (s_X6_begins 5 I)) else (q, (s_X6_begins 5 I))) else (if ((s_X6_begins 4 I) 48 q : Int32) = 2 then (30, (s_X6_begins 4 I)) else (q, (s_X6_begins 4 I))))
set_option maxHeartbeats 8000000 in
theorem x_X6_label (l : Launch) (b base : Nat) (D : va_G) (z : mj_K × (Int32 → Int32)) (N : Nat) (q : Int32) (I : mj_I) (c d r : Nat) (hP : (I 42 6).toInt ≤ 3) : mj_Rn l b base D z mj_m_X6_label 0 [.ref 42, .int q] [] (mj_KS N, I, mj_PP c d r) (mj_E N (some (.int (s_X6_label q I).1)) (s_X6_label q I).2 (mj_PP c d r)) := by
  refine R_seg (φ := []) (pc' := 2) (L' := [.ref 42, .int q]) (st' := [.int q, .ref 42]) (σ' := (mj_KS N, I, mj_PP c d r)) 2 rfl trivial ?_
  refine R_ce (idx := 140) (mid := 100) (kind := 0) (N := N) (M' := mj_m_X6_isPlant) (As := [.ref 42, .int q]) (rest := []) (I := I) (P := mj_PP c d r) (I' := I) (P' := mj_PP c d r) (v := some (.int (s_X6_isPlant q I))) rfl rfl rfl mj_mc100 mj_dc100 rfl rfl rfl rfl rfl rfl (x_X6_isPlant l b base D z N q I c d r) ?_
  refine R_seg (φ := []) (pc' := 5) (L' := [.ref 42, .int q]) (st' := [.int (s_X6_isPlant q I)]) (σ' := (mj_KS N, I, mj_PP c d r)) 0 rfl trivial ?_
  refine R_br (q := ((s_X6_isPlant q I) : Int32) = 0) (t := 8) (f := 10) (rest := []) rfl (fun h1 => ?_) (fun h1 => ?_)
  · skip
    refine R_seg (φ := []) (pc' := 9) (L' := [.ref 42, .int q]) (st' := [.int (-1)]) (σ' := (mj_KS N, I, mj_PP c d r)) 1 rfl trivial ?_
    exact R_ri rfl rfl (mj_leaf (by simp only [s_X6_label, if_pos h1, Bool.false_eq_true, ↓reduceIte, Nat.reduceAdd, Nat.reduceMul, mj_tn0, mj_tn1, mj_tn2, mj_tn3]) (by simp only [s_X6_label, if_pos h1, Bool.false_eq_true, ↓reduceIte, Nat.reduceAdd, Nat.reduceMul, mj_tn0, mj_tn1, mj_tn2, mj_tn3]))
  · skip
    refine R_seg (φ := [mj_in q 3]) (pc' := 18) (L' := [.ref 42, .int q]) (st' := [.int 2, .int (I 48 q), .ref 42]) (σ' := (mj_KS N, I, mj_PP c d r)) 6 rfl ⟨(mj6_pl h1 hP), trivial⟩ ?_
    refine R_br (q := (I 48 q : Int32) = 2) (t := 21) (f := 25) (rest := [.ref 42]) rfl (fun h2 => ?_) (fun h2 => ?_)
    · skip
      refine R_seg (φ := []) (pc' := 26) (L' := [.ref 42, .int q]) (st' := [.int 5, .ref 42]) (σ' := (mj_KS N, I, mj_PP c d r)) 2 rfl trivial ?_
      refine R_ce (idx := 225) (mid := 149) (kind := 0) (N := N) (M' := mj_m_X6_begins) (As := [.ref 42, .int 5]) (rest := []) (I := I) (P := mj_PP c d r) (I' := (s_X6_begins 5 I)) (P' := mj_PP c d r) (v := none) rfl rfl rfl mj_mc149 mj_dc149 rfl rfl rfl rfl rfl rfl (x_X6_begins l b base D z N 5 I c d r) ?_
      refine R_seg (φ := [mj_in q 3]) (pc' := 36) (L' := [.ref 42, .int q]) (st' := [.int 2, .int ((s_X6_begins 5 I) 48 q)]) (σ' := (mj_KS N, (s_X6_begins 5 I), mj_PP c d r)) 5 rfl ⟨(mj6_pl h1 hP), trivial⟩ ?_
      refine R_br (q := ((s_X6_begins 5 I) 48 q : Int32) = 2) (t := 39) (f := 44) (rest := []) rfl (fun h3 => ?_) (fun h3 => ?_)
      · skip
        refine R_seg (φ := []) (pc' := 45) (L' := [.ref 42, .int q]) (st' := [.int 30]) (σ' := (mj_KS N, (s_X6_begins 5 I), mj_PP c d r)) 2 rfl trivial ?_
        exact R_ri rfl rfl (mj_leaf (by simp only [s_X6_label, if_neg h1, if_pos h2, if_pos h3, Bool.false_eq_true, ↓reduceIte, Nat.reduceAdd, Nat.reduceMul, mj_tn0, mj_tn1, mj_tn2, mj_tn3]) (by simp only [s_X6_label, if_neg h1, if_pos h2, if_pos h3, Bool.false_eq_true, ↓reduceIte, Nat.reduceAdd, Nat.reduceMul, mj_tn0, mj_tn1, mj_tn2, mj_tn3]))
      · skip
        refine R_seg (φ := []) (pc' := 45) (L' := [.ref 42, .int q]) (st' := [.int q]) (σ' := (mj_KS N, (s_X6_begins 5 I), mj_PP c d r)) 1 rfl trivial ?_
        exact R_ri rfl rfl (mj_leaf (by simp only [s_X6_label, if_neg h1, if_pos h2, if_neg h3, Bool.false_eq_true, ↓reduceIte, Nat.reduceAdd, Nat.reduceMul, mj_tn0, mj_tn1, mj_tn2, mj_tn3]) (by simp only [s_X6_label, if_neg h1, if_pos h2, if_neg h3, Bool.false_eq_true, ↓reduceIte, Nat.reduceAdd, Nat.reduceMul, mj_tn0, mj_tn1, mj_tn2, mj_tn3]))
    · skip
      refine R_seg (φ := []) (pc' := 26) (L' := [.ref 42, .int q]) (st' := [.int 4, .ref 42]) (σ' := (mj_KS N, I, mj_PP c d r)) 1 rfl trivial ?_
      refine R_ce (idx := 225) (mid := 149) (kind := 0) (N := N) (M' := mj_m_X6_begins) (As := [.ref 42, .int 4]) (rest := []) (I := I) (P := mj_PP c d r) (I' := (s_X6_begins 4 I)) (P' := mj_PP c d r) (v := none) rfl rfl rfl mj_mc149 mj_dc149 rfl rfl rfl rfl rfl rfl (x_X6_begins l b base D z N 4 I c d r) ?_
      refine R_seg (φ := [mj_in q 3]) (pc' := 36) (L' := [.ref 42, .int q]) (st' := [.int 2, .int ((s_X6_begins 4 I) 48 q)]) (σ' := (mj_KS N, (s_X6_begins 4 I), mj_PP c d r)) 5 rfl ⟨(mj6_pl h1 hP), trivial⟩ ?_
      refine R_br (q := ((s_X6_begins 4 I) 48 q : Int32) = 2) (t := 39) (f := 44) (rest := []) rfl (fun h4 => ?_) (fun h4 => ?_)
      · skip
        refine R_seg (φ := []) (pc' := 45) (L' := [.ref 42, .int q]) (st' := [.int 30]) (σ' := (mj_KS N, (s_X6_begins 4 I), mj_PP c d r)) 2 rfl trivial ?_
        exact R_ri rfl rfl (mj_leaf (by simp only [s_X6_label, if_neg h1, if_neg h2, if_pos h4, Bool.false_eq_true, ↓reduceIte, Nat.reduceAdd, Nat.reduceMul, mj_tn0, mj_tn1, mj_tn2, mj_tn3]) (by simp only [s_X6_label, if_neg h1, if_neg h2, if_pos h4, Bool.false_eq_true, ↓reduceIte, Nat.reduceAdd, Nat.reduceMul, mj_tn0, mj_tn1, mj_tn2, mj_tn3]))
      · skip
        refine R_seg (φ := []) (pc' := 45) (L' := [.ref 42, .int q]) (st' := [.int q]) (σ' := (mj_KS N, (s_X6_begins 4 I), mj_PP c d r)) 1 rfl trivial ?_
        exact R_ri rfl rfl (mj_leaf (by simp only [s_X6_label, if_neg h1, if_neg h2, if_neg h4, Bool.false_eq_true, ↓reduceIte, Nat.reduceAdd, Nat.reduceMul, mj_tn0, mj_tn1, mj_tn2, mj_tn3]) (by simp only [s_X6_label, if_neg h1, if_neg h2, if_neg h4, Bool.false_eq_true, ↓reduceIte, Nat.reduceAdd, Nat.reduceMul, mj_tn0, mj_tn1, mj_tn2, mj_tn3]))
def s_X6_as (q : Int32) (k : Int32) (I : mj_I) : Int32 × mj_I := if ((s_X6_isPlant q (mj_upI I 42 0 0)) : Int32) = 0 then ((-1), (mj_upI I 42 0 0)) else (if ((s_X6_within k 0 2 (mj_upI I 42 0 0)) : Int32) = 0 then ((-2), (mj_upI I 42 0 0)) else (if (I 48 q : Int32) < k then ((s_X6_fails 2 (mj_upI I 42 0 0)).1, (s_X6_fails 2 (mj_upI I 42 0 0)).2) else (1, (mj_upI I 42 0 0))))
set_option maxHeartbeats 8000000 in
theorem x_X6_as (l : Launch) (b base : Nat) (D : va_G) (z : mj_K × (Int32 → Int32)) (N : Nat) (q : Int32) (k : Int32) (I : mj_I) (c d r : Nat) (hP : (I 42 6).toInt ≤ 3) : mj_Rn l b base D z mj_m_X6_as 0 [.ref 42, .int q, .int k] [] (mj_KS N, I, mj_PP c d r) (mj_E N (some (.int (s_X6_as q k I).1)) (s_X6_as q k I).2 (mj_PP c d r)) := by
  refine R_seg (φ := []) (pc' := 7) (L' := [.ref 42, .int q, .int k]) (st' := [.int q, .ref 42]) (σ' := (mj_KS N, (mj_upI I 42 0 0), mj_PP c d r)) 5 rfl trivial ?_
  refine R_ce (idx := 140) (mid := 100) (kind := 0) (N := N) (M' := mj_m_X6_isPlant) (As := [.ref 42, .int q]) (rest := []) (I := (mj_upI I 42 0 0)) (P := mj_PP c d r) (I' := (mj_upI I 42 0 0)) (P' := mj_PP c d r) (v := some (.int (s_X6_isPlant q (mj_upI I 42 0 0)))) rfl rfl rfl mj_mc100 mj_dc100 rfl rfl rfl rfl rfl rfl (x_X6_isPlant l b base D z N q (mj_upI I 42 0 0) c d r) ?_
  refine R_seg (φ := []) (pc' := 10) (L' := [.ref 42, .int q, .int k]) (st' := [.int (s_X6_isPlant q (mj_upI I 42 0 0))]) (σ' := (mj_KS N, (mj_upI I 42 0 0), mj_PP c d r)) 0 rfl trivial ?_
  refine R_br (q := ((s_X6_isPlant q (mj_upI I 42 0 0)) : Int32) = 0) (t := 13) (f := 15) (rest := []) rfl (fun h1 => ?_) (fun h1 => ?_)
  · skip
    refine R_seg (φ := []) (pc' := 14) (L' := [.ref 42, .int q, .int k]) (st' := [.int (-1)]) (σ' := (mj_KS N, (mj_upI I 42 0 0), mj_PP c d r)) 1 rfl trivial ?_
    exact R_ri rfl rfl (mj_leaf (by simp only [s_X6_as, if_pos h1, Bool.false_eq_true, ↓reduceIte, Nat.reduceAdd, Nat.reduceMul, mj_tn0, mj_tn1, mj_tn2, mj_tn3]) (by simp only [s_X6_as, if_pos h1, Bool.false_eq_true, ↓reduceIte, Nat.reduceAdd, Nat.reduceMul, mj_tn0, mj_tn1, mj_tn2, mj_tn3]))
  · skip
    refine R_seg (φ := []) (pc' := 18) (L' := [.ref 42, .int q, .int k]) (st' := [.int 2, .int 0, .int k]) (σ' := (mj_KS N, (mj_upI I 42 0 0), mj_PP c d r)) 3 rfl trivial ?_
    refine R_ce (idx := 76) (mid := 95) (kind := 1) (N := N) (M' := mj_m_X6_within) (As := [.int k, .int 0, .int 2]) (rest := []) (I := (mj_upI I 42 0 0)) (P := mj_PP c d r) (I' := (mj_upI I 42 0 0)) (P' := mj_PP c d r) (v := some (.int (s_X6_within k 0 2 (mj_upI I 42 0 0)))) rfl rfl rfl mj_mc95 mj_dc95 rfl rfl rfl rfl rfl rfl (x_X6_within l b base D z N k 0 2 (mj_upI I 42 0 0) c d r) ?_
    refine R_seg (φ := []) (pc' := 21) (L' := [.ref 42, .int q, .int k]) (st' := [.int (s_X6_within k 0 2 (mj_upI I 42 0 0))]) (σ' := (mj_KS N, (mj_upI I 42 0 0), mj_PP c d r)) 0 rfl trivial ?_
    refine R_br (q := ((s_X6_within k 0 2 (mj_upI I 42 0 0)) : Int32) = 0) (t := 24) (f := 27) (rest := []) rfl (fun h2 => ?_) (fun h2 => ?_)
    · skip
      refine R_seg (φ := []) (pc' := 26) (L' := [.ref 42, .int q, .int k]) (st' := [.int (-2)]) (σ' := (mj_KS N, (mj_upI I 42 0 0), mj_PP c d r)) 1 rfl trivial ?_
      exact R_ri rfl rfl (mj_leaf (by simp only [s_X6_as, if_neg h1, if_pos h2, Bool.false_eq_true, ↓reduceIte, Nat.reduceAdd, Nat.reduceMul, mj_tn0, mj_tn1, mj_tn2, mj_tn3]) (by simp only [s_X6_as, if_neg h1, if_pos h2, Bool.false_eq_true, ↓reduceIte, Nat.reduceAdd, Nat.reduceMul, mj_tn0, mj_tn1, mj_tn2, mj_tn3]))
    · skip
      refine R_seg (φ := [mj_in q 3]) (pc' := 34) (L' := [.ref 42, .int q, .int k]) (st' := [.int k, .int (I 48 q)]) (σ' := (mj_KS N, (mj_upI I 42 0 0), mj_PP c d r)) 5 rfl ⟨(mj6_pl h1 hP), trivial⟩ ?_
      refine R_br (q := (I 48 q : Int32) < k) (t := 41) (f := 37) (rest := []) rfl (fun h3 => ?_) (fun h3 => ?_)
      · skip
        refine R_seg (φ := []) (pc' := 43) (L' := [.ref 42, .int q, .int k]) (st' := [.int 2, .ref 42]) (σ' := (mj_KS N, (mj_upI I 42 0 0), mj_PP c d r)) 2 rfl trivial ?_
        refine R_ce (idx := 100) (mid := 93) (kind := 0) (N := N) (M' := mj_m_X6_fails) (As := [.ref 42, .int 2]) (rest := []) (I := (mj_upI I 42 0 0)) (P := mj_PP c d r) (I' := (s_X6_fails 2 (mj_upI I 42 0 0)).2) (P' := mj_PP c d r) (v := some (.int ((s_X6_fails 2 (mj_upI I 42 0 0)).1))) rfl rfl rfl mj_mc93 mj_dc93 rfl rfl rfl rfl rfl rfl (x_X6_fails l b base D z N 2 (mj_upI I 42 0 0) c d r) ?_
        refine R_seg (φ := []) (pc' := 46) (L' := [.ref 42, .int q, .int k]) (st' := [.int ((s_X6_fails 2 (mj_upI I 42 0 0)).1)]) (σ' := (mj_KS N, (s_X6_fails 2 (mj_upI I 42 0 0)).2, mj_PP c d r)) 0 rfl trivial ?_
        exact R_ri rfl rfl (mj_leaf (by simp only [s_X6_as, if_neg h1, if_neg h2, if_pos h3, Bool.false_eq_true, ↓reduceIte, Nat.reduceAdd, Nat.reduceMul, mj_tn0, mj_tn1, mj_tn2, mj_tn3]) (by simp only [s_X6_as, if_neg h1, if_neg h2, if_pos h3, Bool.false_eq_true, ↓reduceIte, Nat.reduceAdd, Nat.reduceMul, mj_tn0, mj_tn1, mj_tn2, mj_tn3]))
      · skip
        refine R_seg (φ := []) (pc' := 46) (L' := [.ref 42, .int q, .int k]) (st' := [.int 1]) (σ' := (mj_KS N, (mj_upI I 42 0 0), mj_PP c d r)) 2 rfl trivial ?_
        exact R_ri rfl rfl (mj_leaf (by simp only [s_X6_as, if_neg h1, if_neg h2, if_neg h3, Bool.false_eq_true, ↓reduceIte, Nat.reduceAdd, Nat.reduceMul, mj_tn0, mj_tn1, mj_tn2, mj_tn3]) (by simp only [s_X6_as, if_neg h1, if_neg h2, if_neg h3, Bool.false_eq_true, ↓reduceIte, Nat.reduceAdd, Nat.reduceMul, mj_tn0, mj_tn1, mj_tn2, mj_tn3]))
def s_X6_reading (q : Int32) (e : Int32) (I : mj_I) : Int32 × mj_I := if ((s_X6_isPlant q I) : Int32) = 0 then ((-1), I) else (if (e : Int32) = (-9) then (if (I 42 25 : Int32) = 8 then ((-4), I) else (((I 42 25) + 1) - 1, (mj_upI (mj_upI (mj_upI I 59 (I 42 25) q) 60 (I 42 25) e) 42 25 ((I 42 25) + 1)))) else (if ((s_X6_within e 0 23 I) : Int32) = 0 then ((-2), I) else (if (I 42 25 : Int32) = 8 then ((-4), I) else (((I 42 25) + 1) - 1, (mj_upI (mj_upI (mj_upI I 59 (I 42 25) q) 60 (I 42 25) e) 42 25 ((I 42 25) + 1))))))
set_option maxHeartbeats 8000000 in
theorem x_X6_reading (l : Launch) (b base : Nat) (D : va_G) (z : mj_K × (Int32 → Int32)) (N : Nat) (q : Int32) (e : Int32) (I : mj_I) (c d r : Nat) (hR : 0 ≤ (I 42 25).toInt ∧ (I 42 25).toInt ≤ 8) : mj_Rn l b base D z mj_m_X6_reading 0 [.ref 42, .int q, .int e] [] (mj_KS N, I, mj_PP c d r) (mj_E N (some (.int (s_X6_reading q e I).1)) (s_X6_reading q e I).2 (mj_PP c d r)) := by
  refine R_seg (φ := []) (pc' := 2) (L' := [.ref 42, .int q, .int e]) (st' := [.int q, .ref 42]) (σ' := (mj_KS N, I, mj_PP c d r)) 2 rfl trivial ?_
  refine R_ce (idx := 140) (mid := 100) (kind := 0) (N := N) (M' := mj_m_X6_isPlant) (As := [.ref 42, .int q]) (rest := []) (I := I) (P := mj_PP c d r) (I' := I) (P' := mj_PP c d r) (v := some (.int (s_X6_isPlant q I))) rfl rfl rfl mj_mc100 mj_dc100 rfl rfl rfl rfl rfl rfl (x_X6_isPlant l b base D z N q I c d r) ?_
  refine R_seg (φ := []) (pc' := 5) (L' := [.ref 42, .int q, .int e]) (st' := [.int (s_X6_isPlant q I)]) (σ' := (mj_KS N, I, mj_PP c d r)) 0 rfl trivial ?_
  refine R_br (q := ((s_X6_isPlant q I) : Int32) = 0) (t := 8) (f := 10) (rest := []) rfl (fun h1 => ?_) (fun h1 => ?_)
  · skip
    refine R_seg (φ := []) (pc' := 9) (L' := [.ref 42, .int q, .int e]) (st' := [.int (-1)]) (σ' := (mj_KS N, I, mj_PP c d r)) 1 rfl trivial ?_
    exact R_ri rfl rfl (mj_leaf (by simp only [s_X6_reading, if_pos h1, Bool.false_eq_true, ↓reduceIte, Nat.reduceAdd, Nat.reduceMul, mj_tn0, mj_tn1, mj_tn2, mj_tn3]) (by simp only [s_X6_reading, if_pos h1, Bool.false_eq_true, ↓reduceIte, Nat.reduceAdd, Nat.reduceMul, mj_tn0, mj_tn1, mj_tn2, mj_tn3]))
  · skip
    refine R_seg (φ := []) (pc' := 13) (L' := [.ref 42, .int q, .int e]) (st' := [.int (-9), .int e]) (σ' := (mj_KS N, I, mj_PP c d r)) 2 rfl trivial ?_
    refine R_br (q := (e : Int32) = (-9)) (t := 29) (f := 16) (rest := []) rfl (fun h2 => ?_) (fun h2 => ?_)
    · skip
      refine R_seg (φ := []) (pc' := 35) (L' := [.ref 42, .int q, .int e]) (st' := [.int 8, .int (I 42 25)]) (σ' := (mj_KS N, I, mj_PP c d r)) 3 rfl trivial ?_
      refine R_br (q := (I 42 25 : Int32) = 8) (t := 38) (f := 41) (rest := []) rfl (fun h3 => ?_) (fun h3 => ?_)
      · skip
        refine R_seg (φ := []) (pc' := 40) (L' := [.ref 42, .int q, .int e]) (st' := [.int (-4)]) (σ' := (mj_KS N, I, mj_PP c d r)) 1 rfl trivial ?_
        exact R_ri rfl rfl (mj_leaf (by simp only [s_X6_reading, if_neg h1, if_pos h2, if_pos h3, Bool.false_eq_true, ↓reduceIte, Nat.reduceAdd, Nat.reduceMul, mj_tn0, mj_tn1, mj_tn2, mj_tn3]) (by simp only [s_X6_reading, if_neg h1, if_pos h2, if_pos h3, Bool.false_eq_true, ↓reduceIte, Nat.reduceAdd, Nat.reduceMul, mj_tn0, mj_tn1, mj_tn2, mj_tn3]))
      · skip
        refine R_seg (φ := [mj_in (I 42 25) 8, mj_in (I 42 25) 8]) (pc' := 77) (L' := [.ref 42, .int q, .int e]) (st' := [.int (((I 42 25) + 1) - 1)]) (σ' := (mj_KS N, (mj_upI (mj_upI (mj_upI I 59 (I 42 25) q) 60 (I 42 25) e) 42 25 ((I 42 25) + 1)), mj_PP c d r)) 22 rfl ⟨(mj6_rd hR h3), (mj6_rd hR h3), trivial⟩ ?_
        exact R_ri rfl rfl (mj_leaf (by simp only [s_X6_reading, if_neg h1, if_pos h2, if_neg h3, Bool.false_eq_true, ↓reduceIte, Nat.reduceAdd, Nat.reduceMul, mj_tn0, mj_tn1, mj_tn2, mj_tn3]) (by simp only [s_X6_reading, if_neg h1, if_pos h2, if_neg h3, Bool.false_eq_true, ↓reduceIte, Nat.reduceAdd, Nat.reduceMul, mj_tn0, mj_tn1, mj_tn2, mj_tn3]))
    · skip
      refine R_seg (φ := []) (pc' := 20) (L' := [.ref 42, .int q, .int e]) (st' := [.int 23, .int 0, .int e]) (σ' := (mj_KS N, I, mj_PP c d r)) 3 rfl trivial ?_
      refine R_ce (idx := 76) (mid := 95) (kind := 1) (N := N) (M' := mj_m_X6_within) (As := [.int e, .int 0, .int 23]) (rest := []) (I := I) (P := mj_PP c d r) (I' := I) (P' := mj_PP c d r) (v := some (.int (s_X6_within e 0 23 I))) rfl rfl rfl mj_mc95 mj_dc95 rfl rfl rfl rfl rfl rfl (x_X6_within l b base D z N e 0 23 I c d r) ?_
      refine R_seg (φ := []) (pc' := 23) (L' := [.ref 42, .int q, .int e]) (st' := [.int (s_X6_within e 0 23 I)]) (σ' := (mj_KS N, I, mj_PP c d r)) 0 rfl trivial ?_
      refine R_br (q := ((s_X6_within e 0 23 I) : Int32) = 0) (t := 26) (f := 29) (rest := []) rfl (fun h4 => ?_) (fun h4 => ?_)
      · skip
        refine R_seg (φ := []) (pc' := 28) (L' := [.ref 42, .int q, .int e]) (st' := [.int (-2)]) (σ' := (mj_KS N, I, mj_PP c d r)) 1 rfl trivial ?_
        exact R_ri rfl rfl (mj_leaf (by simp only [s_X6_reading, if_neg h1, if_neg h2, if_pos h4, Bool.false_eq_true, ↓reduceIte, Nat.reduceAdd, Nat.reduceMul, mj_tn0, mj_tn1, mj_tn2, mj_tn3]) (by simp only [s_X6_reading, if_neg h1, if_neg h2, if_pos h4, Bool.false_eq_true, ↓reduceIte, Nat.reduceAdd, Nat.reduceMul, mj_tn0, mj_tn1, mj_tn2, mj_tn3]))
      · skip
        refine R_seg (φ := []) (pc' := 35) (L' := [.ref 42, .int q, .int e]) (st' := [.int 8, .int (I 42 25)]) (σ' := (mj_KS N, I, mj_PP c d r)) 3 rfl trivial ?_
        refine R_br (q := (I 42 25 : Int32) = 8) (t := 38) (f := 41) (rest := []) rfl (fun h5 => ?_) (fun h5 => ?_)
        · skip
          refine R_seg (φ := []) (pc' := 40) (L' := [.ref 42, .int q, .int e]) (st' := [.int (-4)]) (σ' := (mj_KS N, I, mj_PP c d r)) 1 rfl trivial ?_
          exact R_ri rfl rfl (mj_leaf (by simp only [s_X6_reading, if_neg h1, if_neg h2, if_neg h4, if_pos h5, Bool.false_eq_true, ↓reduceIte, Nat.reduceAdd, Nat.reduceMul, mj_tn0, mj_tn1, mj_tn2, mj_tn3]) (by simp only [s_X6_reading, if_neg h1, if_neg h2, if_neg h4, if_pos h5, Bool.false_eq_true, ↓reduceIte, Nat.reduceAdd, Nat.reduceMul, mj_tn0, mj_tn1, mj_tn2, mj_tn3]))
        · skip
          refine R_seg (φ := [mj_in (I 42 25) 8, mj_in (I 42 25) 8]) (pc' := 77) (L' := [.ref 42, .int q, .int e]) (st' := [.int (((I 42 25) + 1) - 1)]) (σ' := (mj_KS N, (mj_upI (mj_upI (mj_upI I 59 (I 42 25) q) 60 (I 42 25) e) 42 25 ((I 42 25) + 1)), mj_PP c d r)) 22 rfl ⟨(mj6_rd hR h5), (mj6_rd hR h5), trivial⟩ ?_
          exact R_ri rfl rfl (mj_leaf (by simp only [s_X6_reading, if_neg h1, if_neg h2, if_neg h4, if_neg h5, Bool.false_eq_true, ↓reduceIte, Nat.reduceAdd, Nat.reduceMul, mj_tn0, mj_tn1, mj_tn2, mj_tn3]) (by simp only [s_X6_reading, if_neg h1, if_neg h2, if_neg h4, if_neg h5, Bool.false_eq_true, ↓reduceIte, Nat.reduceAdd, Nat.reduceMul, mj_tn0, mj_tn1, mj_tn2, mj_tn3]))
def s_X6_lose (k : Int32) (I : mj_I) : Int32 × mj_I := if ((s_X6_isSheet k I) : Int32) = 0 then ((-1), I) else (if (I 43 k : Int32) = (-9) then (0, (mj_upI I 43 k (-9))) else (1, (mj_upI I 43 k (-9))))
set_option maxHeartbeats 8000000 in
theorem x_X6_lose (l : Launch) (b base : Nat) (D : va_G) (z : mj_K × (Int32 → Int32)) (N : Nat) (k : Int32) (I : mj_I) (c d r : Nat) : mj_Rn l b base D z mj_m_X6_lose 0 [.ref 42, .int k, mj_mk] [] (mj_KS N, I, mj_PP c d r) (mj_E N (some (.int (s_X6_lose k I).1)) (s_X6_lose k I).2 (mj_PP c d r)) := by
  refine R_seg (φ := []) (pc' := 1) (L' := [.ref 42, .int k, mj_mk]) (st' := [.int k]) (σ' := (mj_KS N, I, mj_PP c d r)) 1 rfl trivial ?_
  refine R_ce (idx := 89) (mid := 96) (kind := 1) (N := N) (M' := mj_m_X6_isSheet) (As := [.int k]) (rest := []) (I := I) (P := mj_PP c d r) (I' := I) (P' := mj_PP c d r) (v := some (.int (s_X6_isSheet k I))) rfl rfl rfl mj_mc96 mj_dc96 rfl rfl rfl rfl rfl rfl (x_X6_isSheet l b base D z N k I c d r) ?_
  refine R_seg (φ := []) (pc' := 4) (L' := [.ref 42, .int k, mj_mk]) (st' := [.int (s_X6_isSheet k I)]) (σ' := (mj_KS N, I, mj_PP c d r)) 0 rfl trivial ?_
  refine R_br (q := ((s_X6_isSheet k I) : Int32) = 0) (t := 7) (f := 9) (rest := []) rfl (fun h1 => ?_) (fun h1 => ?_)
  · skip
    refine R_seg (φ := []) (pc' := 8) (L' := [.ref 42, .int k, mj_mk]) (st' := [.int (-1)]) (σ' := (mj_KS N, I, mj_PP c d r)) 1 rfl trivial ?_
    exact R_ri rfl rfl (mj_leaf (by simp only [s_X6_lose, if_pos h1, Bool.false_eq_true, ↓reduceIte, Nat.reduceAdd, Nat.reduceMul, mj_tn0, mj_tn1, mj_tn2, mj_tn3]) (by simp only [s_X6_lose, if_pos h1, Bool.false_eq_true, ↓reduceIte, Nat.reduceAdd, Nat.reduceMul, mj_tn0, mj_tn1, mj_tn2, mj_tn3]))
  · skip
    refine R_seg (φ := [mj_in k 4]) (pc' := 17) (L' := [.ref 42, .int k, mj_mk]) (st' := [.int (-9), .int (I 43 k)]) (σ' := (mj_KS N, I, mj_PP c d r)) 5 rfl ⟨(mj6_sh h1), trivial⟩ ?_
    refine R_br (q := (I 43 k : Int32) = (-9)) (t := 20) (f := 24) (rest := []) rfl (fun h2 => ?_) (fun h2 => ?_)
    · skip
      refine R_seg (φ := [mj_in k 4]) (pc' := 35) (L' := [.ref 42, .int k, .int 0]) (st' := [.int 0]) (σ' := (mj_KS N, (mj_upI I 43 k (-9)), mj_PP c d r)) 9 rfl ⟨(mj6_sh h1), trivial⟩ ?_
      exact R_ri rfl rfl (mj_leaf (by simp only [s_X6_lose, if_neg h1, if_pos h2, Bool.false_eq_true, ↓reduceIte, Nat.reduceAdd, Nat.reduceMul, mj_tn0, mj_tn1, mj_tn2, mj_tn3]) (by simp only [s_X6_lose, if_neg h1, if_pos h2, Bool.false_eq_true, ↓reduceIte, Nat.reduceAdd, Nat.reduceMul, mj_tn0, mj_tn1, mj_tn2, mj_tn3]))
    · skip
      refine R_seg (φ := [mj_in k 4]) (pc' := 35) (L' := [.ref 42, .int k, .int 1]) (st' := [.int 1]) (σ' := (mj_KS N, (mj_upI I 43 k (-9)), mj_PP c d r)) 8 rfl ⟨(mj6_sh h1), trivial⟩ ?_
      exact R_ri rfl rfl (mj_leaf (by simp only [s_X6_lose, if_neg h1, if_neg h2, Bool.false_eq_true, ↓reduceIte, Nat.reduceAdd, Nat.reduceMul, mj_tn0, mj_tn1, mj_tn2, mj_tn3]) (by simp only [s_X6_lose, if_neg h1, if_neg h2, Bool.false_eq_true, ↓reduceIte, Nat.reduceAdd, Nat.reduceMul, mj_tn0, mj_tn1, mj_tn2, mj_tn3]))
def s_X6_put (k : Int32) (i : Int32) (v : Int32) (I : mj_I) : Int32 × mj_I := if ((s_X6_isSheet k (mj_upI I 42 0 0)) : Int32) = 0 then ((-1), (mj_upI I 42 0 0)) else (if (I 43 k : Int32) = (-9) then ((s_X6_fails 1 (mj_upI I 42 0 0)).1, (s_X6_fails 1 (mj_upI I 42 0 0)).2) else (if ((s_X6_within i 0 ((I 44 k) - 1) (mj_upI I 42 0 0)) : Int32) = 0 then ((s_X6_fails 3 (mj_upI I 42 0 0)).1, (s_X6_fails 3 (mj_upI I 42 0 0)).2) else (if (I 43 k : Int32) = 0 then (1, (mj_upI (mj_upI I 42 0 0) 45 ((60 * k) + i) v.toInt8.toInt32)) else (if (I 43 k : Int32) = 1 then (1, (mj_upI (mj_upI I 42 0 0) 45 ((60 * k) + i) v.toInt16.toInt32)) else (1, (mj_upI (mj_upI I 42 0 0) 45 ((60 * k) + i) v))))))
set_option maxHeartbeats 8000000 in
theorem x_X6_put (l : Launch) (b base : Nat) (D : va_G) (z : mj_K × (Int32 → Int32)) (N : Nat) (k : Int32) (i : Int32) (v : Int32) (I : mj_I) (c d r : Nat) (hL : ∀ k, mj_in k 4 → 0 ≤ (I 44 k).toInt ∧ (I 44 k).toInt ≤ 60) : mj_Rn l b base D z mj_m_X6_put 0 [.ref 42, .int k, .int i, .int v] [] (mj_KS N, I, mj_PP c d r) (mj_E N (some (.int (s_X6_put k i v I).1)) (s_X6_put k i v I).2 (mj_PP c d r)) := by
  refine R_seg (φ := []) (pc' := 6) (L' := [.ref 42, .int k, .int i, .int v]) (st' := [.int k]) (σ' := (mj_KS N, (mj_upI I 42 0 0), mj_PP c d r)) 4 rfl trivial ?_
  refine R_ce (idx := 89) (mid := 96) (kind := 1) (N := N) (M' := mj_m_X6_isSheet) (As := [.int k]) (rest := []) (I := (mj_upI I 42 0 0)) (P := mj_PP c d r) (I' := (mj_upI I 42 0 0)) (P' := mj_PP c d r) (v := some (.int (s_X6_isSheet k (mj_upI I 42 0 0)))) rfl rfl rfl mj_mc96 mj_dc96 rfl rfl rfl rfl rfl rfl (x_X6_isSheet l b base D z N k (mj_upI I 42 0 0) c d r) ?_
  refine R_seg (φ := []) (pc' := 9) (L' := [.ref 42, .int k, .int i, .int v]) (st' := [.int (s_X6_isSheet k (mj_upI I 42 0 0))]) (σ' := (mj_KS N, (mj_upI I 42 0 0), mj_PP c d r)) 0 rfl trivial ?_
  refine R_br (q := ((s_X6_isSheet k (mj_upI I 42 0 0)) : Int32) = 0) (t := 12) (f := 14) (rest := []) rfl (fun h1 => ?_) (fun h1 => ?_)
  · skip
    refine R_seg (φ := []) (pc' := 13) (L' := [.ref 42, .int k, .int i, .int v]) (st' := [.int (-1)]) (σ' := (mj_KS N, (mj_upI I 42 0 0), mj_PP c d r)) 1 rfl trivial ?_
    exact R_ri rfl rfl (mj_leaf (by simp only [s_X6_put, if_pos h1, Bool.false_eq_true, ↓reduceIte, Nat.reduceAdd, Nat.reduceMul, mj_tn0, mj_tn1, mj_tn2, mj_tn3]) (by simp only [s_X6_put, if_pos h1, Bool.false_eq_true, ↓reduceIte, Nat.reduceAdd, Nat.reduceMul, mj_tn0, mj_tn1, mj_tn2, mj_tn3]))
  · skip
    refine R_seg (φ := [mj_in k 4]) (pc' := 22) (L' := [.ref 42, .int k, .int i, .int v]) (st' := [.int (-9), .int (I 43 k)]) (σ' := (mj_KS N, (mj_upI I 42 0 0), mj_PP c d r)) 5 rfl ⟨(mj6_sh h1), trivial⟩ ?_
    refine R_br (q := (I 43 k : Int32) = (-9)) (t := 25) (f := 31) (rest := []) rfl (fun h2 => ?_) (fun h2 => ?_)
    · skip
      refine R_seg (φ := []) (pc' := 27) (L' := [.ref 42, .int k, .int i, .int v]) (st' := [.int 1, .ref 42]) (σ' := (mj_KS N, (mj_upI I 42 0 0), mj_PP c d r)) 2 rfl trivial ?_
      refine R_ce (idx := 100) (mid := 93) (kind := 0) (N := N) (M' := mj_m_X6_fails) (As := [.ref 42, .int 1]) (rest := []) (I := (mj_upI I 42 0 0)) (P := mj_PP c d r) (I' := (s_X6_fails 1 (mj_upI I 42 0 0)).2) (P' := mj_PP c d r) (v := some (.int ((s_X6_fails 1 (mj_upI I 42 0 0)).1))) rfl rfl rfl mj_mc93 mj_dc93 rfl rfl rfl rfl rfl rfl (x_X6_fails l b base D z N 1 (mj_upI I 42 0 0) c d r) ?_
      refine R_seg (φ := []) (pc' := 30) (L' := [.ref 42, .int k, .int i, .int v]) (st' := [.int ((s_X6_fails 1 (mj_upI I 42 0 0)).1)]) (σ' := (mj_KS N, (s_X6_fails 1 (mj_upI I 42 0 0)).2, mj_PP c d r)) 0 rfl trivial ?_
      exact R_ri rfl rfl (mj_leaf (by simp only [s_X6_put, if_neg h1, if_pos h2, Bool.false_eq_true, ↓reduceIte, Nat.reduceAdd, Nat.reduceMul, mj_tn0, mj_tn1, mj_tn2, mj_tn3]) (by simp only [s_X6_put, if_neg h1, if_pos h2, Bool.false_eq_true, ↓reduceIte, Nat.reduceAdd, Nat.reduceMul, mj_tn0, mj_tn1, mj_tn2, mj_tn3]))
    · skip
      refine R_seg (φ := [mj_in k 4]) (pc' := 41) (L' := [.ref 42, .int k, .int i, .int v]) (st' := [.int ((I 44 k) - 1), .int 0, .int i]) (σ' := (mj_KS N, (mj_upI I 42 0 0), mj_PP c d r)) 8 rfl ⟨(mj6_sh h1), trivial⟩ ?_
      refine R_ce (idx := 76) (mid := 95) (kind := 1) (N := N) (M' := mj_m_X6_within) (As := [.int i, .int 0, .int ((I 44 k) - 1)]) (rest := []) (I := (mj_upI I 42 0 0)) (P := mj_PP c d r) (I' := (mj_upI I 42 0 0)) (P' := mj_PP c d r) (v := some (.int (s_X6_within i 0 ((I 44 k) - 1) (mj_upI I 42 0 0)))) rfl rfl rfl mj_mc95 mj_dc95 rfl rfl rfl rfl rfl rfl (x_X6_within l b base D z N i 0 ((I 44 k) - 1) (mj_upI I 42 0 0) c d r) ?_
      refine R_seg (φ := []) (pc' := 44) (L' := [.ref 42, .int k, .int i, .int v]) (st' := [.int (s_X6_within i 0 ((I 44 k) - 1) (mj_upI I 42 0 0))]) (σ' := (mj_KS N, (mj_upI I 42 0 0), mj_PP c d r)) 0 rfl trivial ?_
      refine R_br (q := ((s_X6_within i 0 ((I 44 k) - 1) (mj_upI I 42 0 0)) : Int32) = 0) (t := 47) (f := 53) (rest := []) rfl (fun h3 => ?_) (fun h3 => ?_)
      · skip
        refine R_seg (φ := []) (pc' := 49) (L' := [.ref 42, .int k, .int i, .int v]) (st' := [.int 3, .ref 42]) (σ' := (mj_KS N, (mj_upI I 42 0 0), mj_PP c d r)) 2 rfl trivial ?_
        refine R_ce (idx := 100) (mid := 93) (kind := 0) (N := N) (M' := mj_m_X6_fails) (As := [.ref 42, .int 3]) (rest := []) (I := (mj_upI I 42 0 0)) (P := mj_PP c d r) (I' := (s_X6_fails 3 (mj_upI I 42 0 0)).2) (P' := mj_PP c d r) (v := some (.int ((s_X6_fails 3 (mj_upI I 42 0 0)).1))) rfl rfl rfl mj_mc93 mj_dc93 rfl rfl rfl rfl rfl rfl (x_X6_fails l b base D z N 3 (mj_upI I 42 0 0) c d r) ?_
        refine R_seg (φ := []) (pc' := 52) (L' := [.ref 42, .int k, .int i, .int v]) (st' := [.int ((s_X6_fails 3 (mj_upI I 42 0 0)).1)]) (σ' := (mj_KS N, (s_X6_fails 3 (mj_upI I 42 0 0)).2, mj_PP c d r)) 0 rfl trivial ?_
        exact R_ri rfl rfl (mj_leaf (by simp only [s_X6_put, if_neg h1, if_neg h2, if_pos h3, Bool.false_eq_true, ↓reduceIte, Nat.reduceAdd, Nat.reduceMul, mj_tn0, mj_tn1, mj_tn2, mj_tn3]) (by simp only [s_X6_put, if_neg h1, if_neg h2, if_pos h3, Bool.false_eq_true, ↓reduceIte, Nat.reduceAdd, Nat.reduceMul, mj_tn0, mj_tn1, mj_tn2, mj_tn3]))
      · skip
        refine R_seg (φ := [mj_in k 4]) (pc' := 69) (L' := [.ref 42, .int k, .int i, .int v]) (st' := [.int (I 43 k), .int ((60 * k) + i), .ref 45]) (σ' := (mj_KS N, (mj_upI I 42 0 0), mj_PP c d r)) 11 rfl ⟨(mj6_sh h1), trivial⟩ ?_
        refine R_br (q := (I 43 k : Int32) = 0) (t := 72) (f := 77) (rest := [.int ((60 * k) + i), .ref 45]) rfl (fun h4 => ?_) (fun h4 => ?_)
        · skip
          refine R_seg (φ := [mj_in ((60 * k) + i) 240]) (pc' := 95) (L' := [.ref 42, .int k, .int i, .int v]) (st' := [.int 1]) (σ' := (mj_KS N, (mj_upI (mj_upI I 42 0 0) 45 ((60 * k) + i) v.toInt8.toInt32), mj_PP c d r)) 5 rfl ⟨(mj6_c60 (mj6_sh h1) (mj6_wl h3 (hL _ (mj6_sh h1)))), trivial⟩ ?_
          exact R_ri rfl rfl (mj_leaf (by simp only [s_X6_put, if_neg h1, if_neg h2, if_neg h3, if_pos h4, Bool.false_eq_true, ↓reduceIte, Nat.reduceAdd, Nat.reduceMul, mj_tn0, mj_tn1, mj_tn2, mj_tn3]) (by simp only [s_X6_put, if_neg h1, if_neg h2, if_neg h3, if_pos h4, Bool.false_eq_true, ↓reduceIte, Nat.reduceAdd, Nat.reduceMul, mj_tn0, mj_tn1, mj_tn2, mj_tn3]))
        · skip
          refine R_seg (φ := [mj_in k 4]) (pc' := 84) (L' := [.ref 42, .int k, .int i, .int v]) (st' := [.int 1, .int (I 43 k), .int ((60 * k) + i), .ref 45]) (σ' := (mj_KS N, (mj_upI I 42 0 0), mj_PP c d r)) 5 rfl ⟨(mj6_sh h1), trivial⟩ ?_
          refine R_br (q := (I 43 k : Int32) = 1) (t := 87) (f := 92) (rest := [.int ((60 * k) + i), .ref 45]) rfl (fun h5 => ?_) (fun h5 => ?_)
          · skip
            refine R_seg (φ := [mj_in ((60 * k) + i) 240]) (pc' := 95) (L' := [.ref 42, .int k, .int i, .int v]) (st' := [.int 1]) (σ' := (mj_KS N, (mj_upI (mj_upI I 42 0 0) 45 ((60 * k) + i) v.toInt16.toInt32), mj_PP c d r)) 5 rfl ⟨(mj6_c60 (mj6_sh h1) (mj6_wl h3 (hL _ (mj6_sh h1)))), trivial⟩ ?_
            exact R_ri rfl rfl (mj_leaf (by simp only [s_X6_put, if_neg h1, if_neg h2, if_neg h3, if_neg h4, if_pos h5, Bool.false_eq_true, ↓reduceIte, Nat.reduceAdd, Nat.reduceMul, mj_tn0, mj_tn1, mj_tn2, mj_tn3]) (by simp only [s_X6_put, if_neg h1, if_neg h2, if_neg h3, if_neg h4, if_pos h5, Bool.false_eq_true, ↓reduceIte, Nat.reduceAdd, Nat.reduceMul, mj_tn0, mj_tn1, mj_tn2, mj_tn3]))
          · skip
            refine R_seg (φ := [mj_in ((60 * k) + i) 240]) (pc' := 95) (L' := [.ref 42, .int k, .int i, .int v]) (st' := [.int 1]) (σ' := (mj_KS N, (mj_upI (mj_upI I 42 0 0) 45 ((60 * k) + i) v), mj_PP c d r)) 3 rfl ⟨(mj6_c60 (mj6_sh h1) (mj6_wl h3 (hL _ (mj6_sh h1)))), trivial⟩ ?_
            exact R_ri rfl rfl (mj_leaf (by simp only [s_X6_put, if_neg h1, if_neg h2, if_neg h3, if_neg h4, if_neg h5, Bool.false_eq_true, ↓reduceIte, Nat.reduceAdd, Nat.reduceMul, mj_tn0, mj_tn1, mj_tn2, mj_tn3]) (by simp only [s_X6_put, if_neg h1, if_neg h2, if_neg h3, if_neg h4, if_neg h5, Bool.false_eq_true, ↓reduceIte, Nat.reduceAdd, Nat.reduceMul, mj_tn0, mj_tn1, mj_tn2, mj_tn3]))
def s_X6_cell (k : Int32) (i : Int32) (a : Int32) (I : mj_I) : Int64 × mj_I := if ((s_X6_isSheet k (mj_upI I 42 0 0)) : Int32) = 0 then ((-9223372036854775808), (mj_upI I 42 0 0)) else (if ((s_X6_isSort a (mj_upI I 42 0 0)) : Int32) = 0 then ((-9223372036854775808), (mj_upI I 42 0 0)) else (if (I 43 k : Int32) = (-9) then ((s_X6_lost 1 (mj_upI I 42 0 0)).1, (s_X6_lost 1 (mj_upI I 42 0 0)).2) else (if (I 43 k : Int32) = a then (if ((s_X6_within i 0 ((I 44 k) - 1) (mj_upI I 42 0 0)) : Int32) = 0 then ((s_X6_lost 3 (mj_upI I 42 0 0)).1, (s_X6_lost 3 (mj_upI I 42 0 0)).2) else ((I 45 ((60 * k) + i) : Int32).toInt64, (mj_upI I 42 0 0))) else ((s_X6_lost 2 (mj_upI I 42 0 0)).1, (s_X6_lost 2 (mj_upI I 42 0 0)).2))))
set_option maxHeartbeats 8000000 in
theorem x_X6_cell (l : Launch) (b base : Nat) (D : va_G) (z : mj_K × (Int32 → Int32)) (N : Nat) (k : Int32) (i : Int32) (a : Int32) (I : mj_I) (c d r : Nat) (hL : ∀ k, mj_in k 4 → 0 ≤ (I 44 k).toInt ∧ (I 44 k).toInt ≤ 60) : mj_Rn l b base D z mj_m_X6_cell 0 [.ref 42, .int k, .int i, .int a] [] (mj_KS N, I, mj_PP c d r) (mj_E N (some (.long (s_X6_cell k i a I).1)) (s_X6_cell k i a I).2 (mj_PP c d r)) := by
  refine R_seg (φ := []) (pc' := 6) (L' := [.ref 42, .int k, .int i, .int a]) (st' := [.int k]) (σ' := (mj_KS N, (mj_upI I 42 0 0), mj_PP c d r)) 4 rfl trivial ?_
  refine R_ce (idx := 89) (mid := 96) (kind := 1) (N := N) (M' := mj_m_X6_isSheet) (As := [.int k]) (rest := []) (I := (mj_upI I 42 0 0)) (P := mj_PP c d r) (I' := (mj_upI I 42 0 0)) (P' := mj_PP c d r) (v := some (.int (s_X6_isSheet k (mj_upI I 42 0 0)))) rfl rfl rfl mj_mc96 mj_dc96 rfl rfl rfl rfl rfl rfl (x_X6_isSheet l b base D z N k (mj_upI I 42 0 0) c d r) ?_
  refine R_seg (φ := []) (pc' := 9) (L' := [.ref 42, .int k, .int i, .int a]) (st' := [.int (s_X6_isSheet k (mj_upI I 42 0 0))]) (σ' := (mj_KS N, (mj_upI I 42 0 0), mj_PP c d r)) 0 rfl trivial ?_
  refine R_br (q := ((s_X6_isSheet k (mj_upI I 42 0 0)) : Int32) = 0) (t := 19) (f := 12) (rest := []) rfl (fun h1 => ?_) (fun h1 => ?_)
  · skip
    refine R_seg (φ := []) (pc' := 22) (L' := [.ref 42, .int k, .int i, .int a]) (st' := [.long (-9223372036854775808)]) (σ' := (mj_KS N, (mj_upI I 42 0 0), mj_PP c d r)) 1 rfl trivial ?_
    exact R_rl rfl rfl (mj_leaf (by simp only [s_X6_cell, if_pos h1, Bool.false_eq_true, ↓reduceIte, Nat.reduceAdd, Nat.reduceMul, mj_tn0, mj_tn1, mj_tn2, mj_tn3]) (by simp only [s_X6_cell, if_pos h1, Bool.false_eq_true, ↓reduceIte, Nat.reduceAdd, Nat.reduceMul, mj_tn0, mj_tn1, mj_tn2, mj_tn3]))
  · skip
    refine R_seg (φ := []) (pc' := 13) (L' := [.ref 42, .int k, .int i, .int a]) (st' := [.int a]) (σ' := (mj_KS N, (mj_upI I 42 0 0), mj_PP c d r)) 1 rfl trivial ?_
    refine R_ce (idx := 93) (mid := 97) (kind := 1) (N := N) (M' := mj_m_X6_isSort) (As := [.int a]) (rest := []) (I := (mj_upI I 42 0 0)) (P := mj_PP c d r) (I' := (mj_upI I 42 0 0)) (P' := mj_PP c d r) (v := some (.int (s_X6_isSort a (mj_upI I 42 0 0)))) rfl rfl rfl mj_mc97 mj_dc97 rfl rfl rfl rfl rfl rfl (x_X6_isSort l b base D z N a (mj_upI I 42 0 0) c d r) ?_
    refine R_seg (φ := []) (pc' := 16) (L' := [.ref 42, .int k, .int i, .int a]) (st' := [.int (s_X6_isSort a (mj_upI I 42 0 0))]) (σ' := (mj_KS N, (mj_upI I 42 0 0), mj_PP c d r)) 0 rfl trivial ?_
    refine R_br (q := ((s_X6_isSort a (mj_upI I 42 0 0)) : Int32) = 0) (t := 19) (f := 23) (rest := []) rfl (fun h2 => ?_) (fun h2 => ?_)
    · skip
      refine R_seg (φ := []) (pc' := 22) (L' := [.ref 42, .int k, .int i, .int a]) (st' := [.long (-9223372036854775808)]) (σ' := (mj_KS N, (mj_upI I 42 0 0), mj_PP c d r)) 1 rfl trivial ?_
      exact R_rl rfl rfl (mj_leaf (by simp only [s_X6_cell, if_neg h1, if_pos h2, Bool.false_eq_true, ↓reduceIte, Nat.reduceAdd, Nat.reduceMul, mj_tn0, mj_tn1, mj_tn2, mj_tn3]) (by simp only [s_X6_cell, if_neg h1, if_pos h2, Bool.false_eq_true, ↓reduceIte, Nat.reduceAdd, Nat.reduceMul, mj_tn0, mj_tn1, mj_tn2, mj_tn3]))
    · skip
      refine R_seg (φ := [mj_in k 4]) (pc' := 31) (L' := [.ref 42, .int k, .int i, .int a]) (st' := [.int (-9), .int (I 43 k)]) (σ' := (mj_KS N, (mj_upI I 42 0 0), mj_PP c d r)) 5 rfl ⟨(mj6_sh h1), trivial⟩ ?_
      refine R_br (q := (I 43 k : Int32) = (-9)) (t := 50) (f := 34) (rest := []) rfl (fun h3 => ?_) (fun h3 => ?_)
      · skip
        refine R_seg (φ := [mj_in k 4]) (pc' := 58) (L' := [.ref 42, .int k, .int i, .int a]) (st' := [.int (-9), .int (I 43 k)]) (σ' := (mj_KS N, (mj_upI I 42 0 0), mj_PP c d r)) 5 rfl ⟨(mj6_sh h1), trivial⟩ ?_
        refine R_br (q := (I 43 k : Int32) = (-9)) (t := 61) (f := 67) (rest := []) rfl (fun h4 => ?_) (fun h4 => absurd (h3) h4)
        refine R_seg (φ := []) (pc' := 63) (L' := [.ref 42, .int k, .int i, .int a]) (st' := [.int 1, .ref 42]) (σ' := (mj_KS N, (mj_upI I 42 0 0), mj_PP c d r)) 2 rfl trivial ?_
        refine R_ce (idx := 218) (mid := 94) (kind := 0) (N := N) (M' := mj_m_X6_lost) (As := [.ref 42, .int 1]) (rest := []) (I := (mj_upI I 42 0 0)) (P := mj_PP c d r) (I' := (s_X6_lost 1 (mj_upI I 42 0 0)).2) (P' := mj_PP c d r) (v := some (.long ((s_X6_lost 1 (mj_upI I 42 0 0)).1))) rfl rfl rfl mj_mc94 mj_dc94 rfl rfl rfl rfl rfl rfl (x_X6_lost l b base D z N 1 (mj_upI I 42 0 0) c d r) ?_
        refine R_seg (φ := []) (pc' := 66) (L' := [.ref 42, .int k, .int i, .int a]) (st' := [.long ((s_X6_lost 1 (mj_upI I 42 0 0)).1)]) (σ' := (mj_KS N, (s_X6_lost 1 (mj_upI I 42 0 0)).2, mj_PP c d r)) 0 rfl trivial ?_
        exact R_rl rfl rfl (mj_leaf (by simp only [s_X6_cell, if_neg h1, if_neg h2, if_pos h3, Bool.false_eq_true, ↓reduceIte, Nat.reduceAdd, Nat.reduceMul, mj_tn0, mj_tn1, mj_tn2, mj_tn3]) (by simp only [s_X6_cell, if_neg h1, if_neg h2, if_pos h3, Bool.false_eq_true, ↓reduceIte, Nat.reduceAdd, Nat.reduceMul, mj_tn0, mj_tn1, mj_tn2, mj_tn3]))
      · skip
        refine R_seg (φ := [mj_in k 4]) (pc' := 41) (L' := [.ref 42, .int k, .int i, .int a]) (st' := [.int a, .int (I 43 k)]) (σ' := (mj_KS N, (mj_upI I 42 0 0), mj_PP c d r)) 5 rfl ⟨(mj6_sh h1), trivial⟩ ?_
        refine R_br (q := (I 43 k : Int32) = a) (t := 50) (f := 44) (rest := []) rfl (fun h5 => ?_) (fun h5 => ?_)
        · skip
          refine R_seg (φ := [mj_in k 4]) (pc' := 58) (L' := [.ref 42, .int k, .int i, .int a]) (st' := [.int (-9), .int (I 43 k)]) (σ' := (mj_KS N, (mj_upI I 42 0 0), mj_PP c d r)) 5 rfl ⟨(mj6_sh h1), trivial⟩ ?_
          refine R_br (q := (I 43 k : Int32) = (-9)) (t := 61) (f := 67) (rest := []) rfl (fun h6 => absurd h6 (h3)) (fun h6 => ?_)
          refine R_seg (φ := [mj_in k 4]) (pc' := 77) (L' := [.ref 42, .int k, .int i, .int a]) (st' := [.int ((I 44 k) - 1), .int 0, .int i]) (σ' := (mj_KS N, (mj_upI I 42 0 0), mj_PP c d r)) 8 rfl ⟨(mj6_sh h1), trivial⟩ ?_
          refine R_ce (idx := 76) (mid := 95) (kind := 1) (N := N) (M' := mj_m_X6_within) (As := [.int i, .int 0, .int ((I 44 k) - 1)]) (rest := []) (I := (mj_upI I 42 0 0)) (P := mj_PP c d r) (I' := (mj_upI I 42 0 0)) (P' := mj_PP c d r) (v := some (.int (s_X6_within i 0 ((I 44 k) - 1) (mj_upI I 42 0 0)))) rfl rfl rfl mj_mc95 mj_dc95 rfl rfl rfl rfl rfl rfl (x_X6_within l b base D z N i 0 ((I 44 k) - 1) (mj_upI I 42 0 0) c d r) ?_
          refine R_seg (φ := []) (pc' := 80) (L' := [.ref 42, .int k, .int i, .int a]) (st' := [.int (s_X6_within i 0 ((I 44 k) - 1) (mj_upI I 42 0 0))]) (σ' := (mj_KS N, (mj_upI I 42 0 0), mj_PP c d r)) 0 rfl trivial ?_
          refine R_br (q := ((s_X6_within i 0 ((I 44 k) - 1) (mj_upI I 42 0 0)) : Int32) = 0) (t := 83) (f := 89) (rest := []) rfl (fun h7 => ?_) (fun h7 => ?_)
          · skip
            refine R_seg (φ := []) (pc' := 85) (L' := [.ref 42, .int k, .int i, .int a]) (st' := [.int 3, .ref 42]) (σ' := (mj_KS N, (mj_upI I 42 0 0), mj_PP c d r)) 2 rfl trivial ?_
            refine R_ce (idx := 218) (mid := 94) (kind := 0) (N := N) (M' := mj_m_X6_lost) (As := [.ref 42, .int 3]) (rest := []) (I := (mj_upI I 42 0 0)) (P := mj_PP c d r) (I' := (s_X6_lost 3 (mj_upI I 42 0 0)).2) (P' := mj_PP c d r) (v := some (.long ((s_X6_lost 3 (mj_upI I 42 0 0)).1))) rfl rfl rfl mj_mc94 mj_dc94 rfl rfl rfl rfl rfl rfl (x_X6_lost l b base D z N 3 (mj_upI I 42 0 0) c d r) ?_
            refine R_seg (φ := []) (pc' := 88) (L' := [.ref 42, .int k, .int i, .int a]) (st' := [.long ((s_X6_lost 3 (mj_upI I 42 0 0)).1)]) (σ' := (mj_KS N, (s_X6_lost 3 (mj_upI I 42 0 0)).2, mj_PP c d r)) 0 rfl trivial ?_
            exact R_rl rfl rfl (mj_leaf (by simp only [s_X6_cell, if_neg h1, if_neg h2, if_neg h3, if_pos h5, if_pos h7, Bool.false_eq_true, ↓reduceIte, Nat.reduceAdd, Nat.reduceMul, mj_tn0, mj_tn1, mj_tn2, mj_tn3]) (by simp only [s_X6_cell, if_neg h1, if_neg h2, if_neg h3, if_pos h5, if_pos h7, Bool.false_eq_true, ↓reduceIte, Nat.reduceAdd, Nat.reduceMul, mj_tn0, mj_tn1, mj_tn2, mj_tn3]))
          · skip
            refine R_seg (φ := [mj_in ((60 * k) + i) 240]) (pc' := 101) (L' := [.ref 42, .int k, .int i, .int a]) (st' := [.long ((I 45 ((60 * k) + i) : Int32).toInt64)]) (σ' := (mj_KS N, (mj_upI I 42 0 0), mj_PP c d r)) 9 rfl ⟨(mj6_c60 (mj6_sh h1) (mj6_wl h7 (hL _ (mj6_sh h1)))), trivial⟩ ?_
            exact R_rl rfl rfl (mj_leaf (by simp only [s_X6_cell, if_neg h1, if_neg h2, if_neg h3, if_pos h5, if_neg h7, Bool.false_eq_true, ↓reduceIte, Nat.reduceAdd, Nat.reduceMul, mj_tn0, mj_tn1, mj_tn2, mj_tn3]) (by simp only [s_X6_cell, if_neg h1, if_neg h2, if_neg h3, if_pos h5, if_neg h7, Bool.false_eq_true, ↓reduceIte, Nat.reduceAdd, Nat.reduceMul, mj_tn0, mj_tn1, mj_tn2, mj_tn3]))
        · skip
          refine R_seg (φ := []) (pc' := 46) (L' := [.ref 42, .int k, .int i, .int a]) (st' := [.int 2, .ref 42]) (σ' := (mj_KS N, (mj_upI I 42 0 0), mj_PP c d r)) 2 rfl trivial ?_
          refine R_ce (idx := 218) (mid := 94) (kind := 0) (N := N) (M' := mj_m_X6_lost) (As := [.ref 42, .int 2]) (rest := []) (I := (mj_upI I 42 0 0)) (P := mj_PP c d r) (I' := (s_X6_lost 2 (mj_upI I 42 0 0)).2) (P' := mj_PP c d r) (v := some (.long ((s_X6_lost 2 (mj_upI I 42 0 0)).1))) rfl rfl rfl mj_mc94 mj_dc94 rfl rfl rfl rfl rfl rfl (x_X6_lost l b base D z N 2 (mj_upI I 42 0 0) c d r) ?_
          refine R_seg (φ := []) (pc' := 49) (L' := [.ref 42, .int k, .int i, .int a]) (st' := [.long ((s_X6_lost 2 (mj_upI I 42 0 0)).1)]) (σ' := (mj_KS N, (s_X6_lost 2 (mj_upI I 42 0 0)).2, mj_PP c d r)) 0 rfl trivial ?_
          exact R_rl rfl rfl (mj_leaf (by simp only [s_X6_cell, if_neg h1, if_neg h2, if_neg h3, if_neg h5, Bool.false_eq_true, ↓reduceIte, Nat.reduceAdd, Nat.reduceMul, mj_tn0, mj_tn1, mj_tn2, mj_tn3]) (by simp only [s_X6_cell, if_neg h1, if_neg h2, if_neg h3, if_neg h5, Bool.false_eq_true, ↓reduceIte, Nat.reduceAdd, Nat.reduceMul, mj_tn0, mj_tn1, mj_tn2, mj_tn3]))
