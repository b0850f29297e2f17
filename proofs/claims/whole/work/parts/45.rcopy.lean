/-! the reference: sheets, copies; a text read -/
def s_X6_sh (v : Int32) (a : Int32) (n : Int32) : Nat → Nat → mj_I → Int32 × mj_I
  | 0, j, I => (1, I)
  | k + 1, j, I => s_X6_sh v a n k (j + 1)  (mj_upI I 45 ((60 * v) + (nI j)) 0)
set_option maxHeartbeats 8000000 in
theorem x_X6_sh (l : Launch) (b base : Nat) (D : va_G) (z : mj_K × (Int32 → Int32)) (N : Nat) (v : Int32) (a : Int32) (n : Int32) (c d r : Nat) (hv : mj_in v 4) : ∀ (k j : Nat) (I : mj_I), k = 60 - j → 0 ≤ j → j ≤ 60 + 1 → mj_Rn l b base D z mj_m_X6_sheet 57 [.ref 42, .int v, .int a, .int n, .int (nI j)] [] (mj_KS N, I, mj_PP c d r) (mj_E N (some (.int (s_X6_sh v a n k j  I).1)) (s_X6_sh v a n k j  I).2 (mj_PP c d r)) := by
  intro k
  induction k with
  | zero =>
    intro j I hk hlo hj
    refine R_seg (φ := []) (pc' := 61) (L' := [.ref 42, .int v, .int a, .int n, .int (nI j)]) (st' := [.int 60, .int (nI j)]) (σ' := (mj_KS N, I, mj_PP c d r)) 2 rfl trivial ?_
    refine R_br (q := (nI j : Int32) < 60) (t := 64) (f := 83) (rest := []) rfl (fun h1 => absurd h1 (show ¬ nI j < nI 60 from nI_nlt (by omega) (by omega))) (fun h1 => ?_)
    refine R_seg (φ := []) (pc' := 84) (L' := [.ref 42, .int v, .int a, .int n, .int (nI j)]) (st' := [.int 1]) (σ' := (mj_KS N, I, mj_PP c d r)) 1 rfl trivial ?_
    exact R_ri rfl rfl (mj_leaf (by simp only [s_X6_sh, Bool.false_eq_true, ↓reduceIte, Nat.reduceAdd, Nat.reduceMul, mj_tn0, mj_tn1, mj_tn2, mj_tn3]) (by simp only [s_X6_sh, Bool.false_eq_true, ↓reduceIte, Nat.reduceAdd, Nat.reduceMul, mj_tn0, mj_tn1, mj_tn2, mj_tn3]))
  | succ k ih =>
    intro j I hk hlo hj
    have hjm : j < 60 := by omega
    have hin := mj6_c60 hv (mj_in_nI (n := 60) hjm (by decide))
    refine R_seg (φ := []) (pc' := 61) (L' := [.ref 42, .int v, .int a, .int n, .int (nI j)]) (st' := [.int 60, .int (nI j)]) (σ' := (mj_KS N, I, mj_PP c d r)) 2 rfl trivial ?_
    refine R_br (q := (nI j : Int32) < 60) (t := 64) (f := 83) (rest := []) rfl (fun h1 => ?_) (fun h1 => absurd (show nI j < nI 60 from nI_lt hjm (by omega)) h1)
    refine R_seg (φ := [mj_in ((60 * v) + (nI j)) 240]) (pc' := 57) (L' := [.ref 42, .int v, .int a, .int n, .int ((nI j) + 1)]) (st' := []) (σ' := (mj_KS N, (mj_upI I 45 ((60 * v) + (nI j)) 0), mj_PP c d r)) 11 rfl ⟨hin, trivial⟩ ?_
    rw [nI_1 j]
    rw [show s_X6_sh v a n (k + 1) j  I = s_X6_sh v a n k (j + 1)  (mj_upI I 45 ((60 * v) + (nI j)) 0) from by simp only [s_X6_sh, Bool.false_eq_true, ↓reduceIte, Nat.reduceAdd, Nat.reduceMul, mj_tn0, mj_tn1, mj_tn2, mj_tn3]]
    exact ih (j + 1)  (mj_upI I 45 ((60 * v) + (nI j)) 0) (by omega) (by omega) (by omega)
def s_X6_sheet (v : Int32) (a : Int32) (n : Int32) (I : mj_I) : Int32 × mj_I := if ((s_X6_isSheet v (mj_upI I 42 0 0)) : Int32) = 0 then ((-1), (mj_upI I 42 0 0)) else (if ((s_X6_isSort a (mj_upI I 42 0 0)) : Int32) = 0 then ((-2), (mj_upI I 42 0 0)) else (if (60 : Int32) < n then ((-2), (mj_upI I 42 0 0)) else (if (n : Int32) < 0 then ((s_X6_fails 4 (mj_upI I 42 0 0)).1, (s_X6_fails 4 (mj_upI I 42 0 0)).2) else ((s_X6_sh v a n 60 0  (mj_upI (mj_upI (mj_upI I 42 0 0) 43 v a) 44 v n)).1, (s_X6_sh v a n 60 0  (mj_upI (mj_upI (mj_upI I 42 0 0) 43 v a) 44 v n)).2))))
set_option maxHeartbeats 8000000 in
theorem x_X6_sheet (l : Launch) (b base : Nat) (D : va_G) (z : mj_K × (Int32 → Int32)) (N : Nat) (v : Int32) (a : Int32) (n : Int32) (I : mj_I) (c d r : Nat) : mj_Rn l b base D z mj_m_X6_sheet 0 [.ref 42, .int v, .int a, .int n, mj_mk] [] (mj_KS N, I, mj_PP c d r) (mj_E N (some (.int (s_X6_sheet v a n I).1)) (s_X6_sheet v a n I).2 (mj_PP c d r)) := by
  refine R_seg (φ := []) (pc' := 6) (L' := [.ref 42, .int v, .int a, .int n, mj_mk]) (st' := [.int v]) (σ' := (mj_KS N, (mj_upI I 42 0 0), mj_PP c d r)) 4 rfl trivial ?_
  refine R_ce (idx := 89) (mid := 96) (kind := 1) (N := N) (M' := mj_m_X6_isSheet) (As := [.int v]) (rest := []) (I := (mj_upI I 42 0 0)) (P := mj_PP c d r) (I' := (mj_upI I 42 0 0)) (P' := mj_PP c d r) (v := some (.int (s_X6_isSheet v (mj_upI I 42 0 0)))) rfl rfl rfl mj_mc96 mj_dc96 rfl rfl rfl rfl rfl rfl (x_X6_isSheet l b base D z N v (mj_upI I 42 0 0) c d r) ?_
  refine R_seg (φ := []) (pc' := 9) (L' := [.ref 42, .int v, .int a, .int n, mj_mk]) (st' := [.int (s_X6_isSheet v (mj_upI I 42 0 0))]) (σ' := (mj_KS N, (mj_upI I 42 0 0), mj_PP c d r)) 0 rfl trivial ?_
  refine R_br (q := ((s_X6_isSheet v (mj_upI I 42 0 0)) : Int32) = 0) (t := 12) (f := 14) (rest := []) rfl (fun h1 => ?_) (fun h1 => ?_)
  · skip
    refine R_seg (φ := []) (pc' := 13) (L' := [.ref 42, .int v, .int a, .int n, mj_mk]) (st' := [.int (-1)]) (σ' := (mj_KS N, (mj_upI I 42 0 0), mj_PP c d r)) 1 rfl trivial ?_
    exact R_ri rfl rfl (mj_leaf (by simp only [s_X6_sheet, if_pos h1, Bool.false_eq_true, ↓reduceIte, Nat.reduceAdd, Nat.reduceMul, mj_tn0, mj_tn1, mj_tn2, mj_tn3]) (by simp only [s_X6_sheet, if_pos h1, Bool.false_eq_true, ↓reduceIte, Nat.reduceAdd, Nat.reduceMul, mj_tn0, mj_tn1, mj_tn2, mj_tn3]))
  · skip
    refine R_seg (φ := []) (pc' := 15) (L' := [.ref 42, .int v, .int a, .int n, mj_mk]) (st' := [.int a]) (σ' := (mj_KS N, (mj_upI I 42 0 0), mj_PP c d r)) 1 rfl trivial ?_
    refine R_ce (idx := 93) (mid := 97) (kind := 1) (N := N) (M' := mj_m_X6_isSort) (As := [.int a]) (rest := []) (I := (mj_upI I 42 0 0)) (P := mj_PP c d r) (I' := (mj_upI I 42 0 0)) (P' := mj_PP c d r) (v := some (.int (s_X6_isSort a (mj_upI I 42 0 0)))) rfl rfl rfl mj_mc97 mj_dc97 rfl rfl rfl rfl rfl rfl (x_X6_isSort l b base D z N a (mj_upI I 42 0 0) c d r) ?_
    refine R_seg (φ := []) (pc' := 18) (L' := [.ref 42, .int v, .int a, .int n, mj_mk]) (st' := [.int (s_X6_isSort a (mj_upI I 42 0 0))]) (σ' := (mj_KS N, (mj_upI I 42 0 0), mj_PP c d r)) 0 rfl trivial ?_
    refine R_br (q := ((s_X6_isSort a (mj_upI I 42 0 0)) : Int32) = 0) (t := 27) (f := 21) (rest := []) rfl (fun h2 => ?_) (fun h2 => ?_)
    · skip
      refine R_seg (φ := []) (pc' := 29) (L' := [.ref 42, .int v, .int a, .int n, mj_mk]) (st' := [.int (-2)]) (σ' := (mj_KS N, (mj_upI I 42 0 0), mj_PP c d r)) 1 rfl trivial ?_
      exact R_ri rfl rfl (mj_leaf (by simp only [s_X6_sheet, if_neg h1, if_pos h2, Bool.false_eq_true, ↓reduceIte, Nat.reduceAdd, Nat.reduceMul, mj_tn0, mj_tn1, mj_tn2, mj_tn3]) (by simp only [s_X6_sheet, if_neg h1, if_pos h2, Bool.false_eq_true, ↓reduceIte, Nat.reduceAdd, Nat.reduceMul, mj_tn0, mj_tn1, mj_tn2, mj_tn3]))
    · skip
      refine R_seg (φ := []) (pc' := 24) (L' := [.ref 42, .int v, .int a, .int n, mj_mk]) (st' := [.int 60, .int n]) (σ' := (mj_KS N, (mj_upI I 42 0 0), mj_PP c d r)) 2 rfl trivial ?_
      refine R_br (q := (60 : Int32) < n) (t := 27) (f := 30) (rest := []) rfl (fun h3 => ?_) (fun h3 => ?_)
      · skip
        refine R_seg (φ := []) (pc' := 29) (L' := [.ref 42, .int v, .int a, .int n, mj_mk]) (st' := [.int (-2)]) (σ' := (mj_KS N, (mj_upI I 42 0 0), mj_PP c d r)) 1 rfl trivial ?_
        exact R_ri rfl rfl (mj_leaf (by simp only [s_X6_sheet, if_neg h1, if_neg h2, if_pos h3, Bool.false_eq_true, ↓reduceIte, Nat.reduceAdd, Nat.reduceMul, mj_tn0, mj_tn1, mj_tn2, mj_tn3]) (by simp only [s_X6_sheet, if_neg h1, if_neg h2, if_pos h3, Bool.false_eq_true, ↓reduceIte, Nat.reduceAdd, Nat.reduceMul, mj_tn0, mj_tn1, mj_tn2, mj_tn3]))
      · skip
        refine R_seg (φ := []) (pc' := 31) (L' := [.ref 42, .int v, .int a, .int n, mj_mk]) (st' := [.int n]) (σ' := (mj_KS N, (mj_upI I 42 0 0), mj_PP c d r)) 1 rfl trivial ?_
        refine R_br (q := (n : Int32) < 0) (t := 34) (f := 40) (rest := []) rfl (fun h4 => ?_) (fun h4 => ?_)
        · skip
          refine R_seg (φ := []) (pc' := 36) (L' := [.ref 42, .int v, .int a, .int n, mj_mk]) (st' := [.int 4, .ref 42]) (σ' := (mj_KS N, (mj_upI I 42 0 0), mj_PP c d r)) 2 rfl trivial ?_
          refine R_ce (idx := 100) (mid := 93) (kind := 0) (N := N) (M' := mj_m_X6_fails) (As := [.ref 42, .int 4]) (rest := []) (I := (mj_upI I 42 0 0)) (P := mj_PP c d r) (I' := (s_X6_fails 4 (mj_upI I 42 0 0)).2) (P' := mj_PP c d r) (v := some (.int ((s_X6_fails 4 (mj_upI I 42 0 0)).1))) rfl rfl rfl mj_mc93 mj_dc93 rfl rfl rfl rfl rfl rfl (x_X6_fails l b base D z N 4 (mj_upI I 42 0 0) c d r) ?_
          refine R_seg (φ := []) (pc' := 39) (L' := [.ref 42, .int v, .int a, .int n, mj_mk]) (st' := [.int ((s_X6_fails 4 (mj_upI I 42 0 0)).1)]) (σ' := (mj_KS N, (s_X6_fails 4 (mj_upI I 42 0 0)).2, mj_PP c d r)) 0 rfl trivial ?_
          exact R_ri rfl rfl (mj_leaf (by simp only [s_X6_sheet, if_neg h1, if_neg h2, if_neg h3, if_pos h4, Bool.false_eq_true, ↓reduceIte, Nat.reduceAdd, Nat.reduceMul, mj_tn0, mj_tn1, mj_tn2, mj_tn3]) (by simp only [s_X6_sheet, if_neg h1, if_neg h2, if_neg h3, if_pos h4, Bool.false_eq_true, ↓reduceIte, Nat.reduceAdd, Nat.reduceMul, mj_tn0, mj_tn1, mj_tn2, mj_tn3]))
        · skip
          refine R_seg (φ := [mj_in v 4, mj_in v 4]) (pc' := 57) (L' := [.ref 42, .int v, .int a, .int n, .int 0]) (st' := []) (σ' := (mj_KS N, (mj_upI (mj_upI (mj_upI I 42 0 0) 43 v a) 44 v n), mj_PP c d r)) 12 rfl ⟨(mj6_sh h1), (mj6_sh h1), trivial⟩ ?_
          simp only [s_X6_sheet, if_neg h1, if_neg h2, if_neg h3, if_neg h4, Bool.false_eq_true, ↓reduceIte, Nat.reduceAdd, Nat.reduceMul, mj_tn0, mj_tn1, mj_tn2, mj_tn3]
          exact x_X6_sh l b base D z N v a n c d r (mj6_sh h1) 60 0  (mj_upI (mj_upI (mj_upI I 42 0 0) 43 v a) 44 v n) (by omega) (by omega) (by omega)
theorem mj6_cpm {n i L : Int32} (h1 : ¬ n < 0) (h2 : ¬ L - i < n) (h3 : ¬ i < 0) (h4 : ¬ L < i) (hl : 0 ≤ L.toInt ∧ L.toInt ≤ 60) : ∃ m : Nat, n = nI m ∧ 0 ≤ i.toInt ∧ i.toInt + (m : Int) ≤ 60 := by
  have a1 := mj_i0 h1
  have a2 := mj_iN h2
  have a3 := mj_i0 h3
  have a4 := mj_iN h4
  rw [mj_isub (by omega) (by omega)] at a2
  exact ⟨n.toInt.toNat, mj_ofI (by rw [nI_toInt (by omega)]; omega), a3, by omega⟩
theorem mj6_cpi {n i L : Int32} {m : Nat} (hn : n = nI m) (hm : m ≤ 60) (h2 : ¬ L - i < n) (h3 : ¬ i < 0) (h4 : ¬ L < i) (hl : 0 ≤ L.toInt ∧ L.toInt ≤ 60) : 0 ≤ i.toInt ∧ i.toInt + (m : Int) ≤ 60 := by
  have a2 := mj_iN h2
  have a3 := mj_i0 h3
  have a4 := mj_iN h4
  rw [mj_isub (by omega) (by omega), hn, nI_toInt (by omega)] at a2
  omega
theorem mj6_cpb {m j : Nat} (h : j < m) (hm : m ≤ 60) : nI m - 1 - nI j = nI (m - 1 - j) := by
  refine mj_ofI ?_
  have e1 : (1 : Int32).toInt = 1 := by decide
  have em : (nI m).toInt = (m : Int) := nI_toInt (by omega)
  have ej : (nI j).toInt = (j : Int) := nI_toInt (by omega)
  have e2 : (nI m - 1).toInt = (m : Int) - 1 := by rw [mj_isub (by omega) (by omega), em, e1]
  rw [mj_isub (by omega) (by omega), e2, ej, nI_toInt (by omega)]
  omega
theorem mj6_cpx {u i : Int32} {j m : Nat} (hu : mj_in u 4) (hi : 0 ≤ i.toInt ∧ i.toInt + (m : Int) ≤ 60) (hm : m ≤ 60) (hj : j < m) : mj_in (60 * u + i + (nI m - 1 - nI j)) 240 := by
  rw [mj6_cpb hj hm]
  exact mj6_c60j hu hi (by omega)
def s_X6_cp (s : Int32) (i : Int32) (v : Int32) (e : Int32) (m : Nat) (f : Int32) (g : Int32) : Nat → Nat → mj_I → Int32 × mj_I
  | 0, j, I => (nI m, I)
  | k + 1, j, I => if (g : Int32) = 0 then (s_X6_cp s i v e m f g k (j + 1)  (mj_upI I 45 (((60 * v) + e) + (nI j)) (I 45 (((60 * s) + i) + (nI j))))) else (s_X6_cp s i v e m f g k (j + 1)  (mj_upI I 45 (((60 * v) + e) + (((nI m) - 1) - (nI j))) (I 45 (((60 * s) + i) + (((nI m) - 1) - (nI j))))))
set_option maxHeartbeats 8000000 in
theorem x_X6_cp (l : Launch) (b base : Nat) (D : va_G) (z : mj_K × (Int32 → Int32)) (N : Nat) (s : Int32) (i : Int32) (v : Int32) (e : Int32) (m : Nat) (f : Int32) (g : Int32) (c d r : Nat) (hm : m ≤ 60) (hs : mj_in s 4) (hv : mj_in v 4) (hi : 0 ≤ i.toInt ∧ i.toInt + (m : Int) ≤ 60) (he : 0 ≤ e.toInt ∧ e.toInt + (m : Int) ≤ 60) : ∀ (k j : Nat) (w9 : Value) (I : mj_I), k = m - j → 0 ≤ j → j ≤ m + 1 → mj_Rn l b base D z mj_m_X6_copy 166 [.ref 42, .int s, .int i, .int v, .int e, .int (nI m), .int f, .int g, .int (nI j), w9] [] (mj_KS N, I, mj_PP c d r) (mj_E N (some (.int (s_X6_cp s i v e m f g k j  I).1)) (s_X6_cp s i v e m f g k j  I).2 (mj_PP c d r)) := by
  intro k
  induction k with
  | zero =>
    intro j w9 I hk hlo hj
    refine R_seg (φ := []) (pc' := 170) (L' := [.ref 42, .int s, .int i, .int v, .int e, .int (nI m), .int f, .int g, .int (nI j), w9]) (st' := [.int (nI m), .int (nI j)]) (σ' := (mj_KS N, I, mj_PP c d r)) 2 rfl trivial ?_
    refine R_br (q := (nI j : Int32) < nI m) (t := 173) (f := 227) (rest := []) rfl (fun h1 => absurd h1 (by exact nI_nlt (by omega) (by omega))) (fun h1 => ?_)
    refine R_seg (φ := []) (pc' := 229) (L' := [.ref 42, .int s, .int i, .int v, .int e, .int (nI m), .int f, .int g, .int (nI j), w9]) (st' := [.int (nI m)]) (σ' := (mj_KS N, I, mj_PP c d r)) 1 rfl trivial ?_
    exact R_ri rfl rfl (mj_leaf (by first | (simp only [s_X6_cp, Bool.false_eq_true, ↓reduceIte, Nat.reduceAdd, Nat.reduceMul, mj_tn0, mj_tn1, mj_tn2, mj_tn3]; done) | contradiction) (by first | (simp only [s_X6_cp, Bool.false_eq_true, ↓reduceIte, Nat.reduceAdd, Nat.reduceMul, mj_tn0, mj_tn1, mj_tn2, mj_tn3]; done) | contradiction))
  | succ k ih =>
    intro j w9 I hk hlo hj
    have hjm : j < m := by omega
    refine R_seg (φ := []) (pc' := 170) (L' := [.ref 42, .int s, .int i, .int v, .int e, .int (nI m), .int f, .int g, .int (nI j), w9]) (st' := [.int (nI m), .int (nI j)]) (σ' := (mj_KS N, I, mj_PP c d r)) 2 rfl trivial ?_
    refine R_br (q := (nI j : Int32) < nI m) (t := 173) (f := 227) (rest := []) rfl (fun h1 => ?_) (fun h1 => absurd (by exact nI_lt hjm (by omega)) h1)
    refine R_seg (φ := []) (pc' := 175) (L' := [.ref 42, .int s, .int i, .int v, .int e, .int (nI m), .int f, .int g, .int (nI j), w9]) (st' := [.int g]) (σ' := (mj_KS N, I, mj_PP c d r)) 1 rfl trivial ?_
    refine R_br (q := (g : Int32) = 0) (t := 188) (f := 178) (rest := []) rfl (fun h2 => ?_) (fun h2 => ?_)
    · skip
      refine R_seg (φ := [mj_in (((60 * s) + i) + (nI j)) 240, mj_in (((60 * v) + e) + (nI j)) 240]) (pc' := 166) (L' := [.ref 42, .int s, .int i, .int v, .int e, .int (nI m), .int f, .int g, .int ((nI j) + 1), .int (nI j)]) (st' := []) (σ' := (mj_KS N, (mj_upI I 45 (((60 * v) + e) + (nI j)) (I 45 (((60 * s) + i) + (nI j)))), mj_PP c d r)) 24 rfl ⟨(mj6_c60j hs hi hjm), (mj6_c60j hv he hjm), trivial⟩ ?_
      rw [nI_1 j]
      rw [show s_X6_cp s i v e m f g (k + 1) j  I = s_X6_cp s i v e m f g k (j + 1)  (mj_upI I 45 (((60 * v) + e) + (nI j)) (I 45 (((60 * s) + i) + (nI j)))) from by simp only [s_X6_cp, if_pos h2, Bool.false_eq_true, ↓reduceIte, Nat.reduceAdd, Nat.reduceMul, mj_tn0, mj_tn1, mj_tn2, mj_tn3]]
      exact ih (j + 1)  (.int (nI j)) (mj_upI I 45 (((60 * v) + e) + (nI j)) (I 45 (((60 * s) + i) + (nI j)))) (by omega) (by omega) (by omega)
    · skip
      refine R_seg (φ := [mj_in (((60 * s) + i) + (((nI m) - 1) - (nI j))) 240, mj_in (((60 * v) + e) + (((nI m) - 1) - (nI j))) 240]) (pc' := 166) (L' := [.ref 42, .int s, .int i, .int v, .int e, .int (nI m), .int f, .int g, .int ((nI j) + 1), .int (((nI m) - 1) - (nI j))]) (st' := []) (σ' := (mj_KS N, (mj_upI I 45 (((60 * v) + e) + (((nI m) - 1) - (nI j))) (I 45 (((60 * s) + i) + (((nI m) - 1) - (nI j))))), mj_PP c d r)) 29 rfl ⟨(mj6_cpx hs hi hm hjm), (mj6_cpx hv he hm hjm), trivial⟩ ?_
      rw [nI_1 j]
      rw [show s_X6_cp s i v e m f g (k + 1) j  I = s_X6_cp s i v e m f g k (j + 1)  (mj_upI I 45 (((60 * v) + e) + (((nI m) - 1) - (nI j))) (I 45 (((60 * s) + i) + (((nI m) - 1) - (nI j))))) from by simp only [s_X6_cp, if_neg h2, Bool.false_eq_true, ↓reduceIte, Nat.reduceAdd, Nat.reduceMul, mj_tn0, mj_tn1, mj_tn2, mj_tn3]]
      exact ih (j + 1)  (.int (((nI m) - 1) - (nI j))) (mj_upI I 45 (((60 * v) + e) + (((nI m) - 1) - (nI j))) (I 45 (((60 * s) + i) + (((nI m) - 1) - (nI j))))) (by omega) (by omega) (by omega)
def s_X6_copy (s : Int32) (i : Int32) (v : Int32) (e : Int32) (n : Int32) (I : mj_I) : Int32 × mj_I := if ((s_X6_isSheet s (mj_upI I 42 0 0)) : Int32) = 0 then ((-1), (mj_upI I 42 0 0)) else (if ((s_X6_isSheet v (mj_upI I 42 0 0)) : Int32) = 0 then ((-1), (mj_upI I 42 0 0)) else (if (I 43 s : Int32) = (-9) then ((s_X6_fails 1 (mj_upI I 42 0 0)).1, (s_X6_fails 1 (mj_upI I 42 0 0)).2) else (if (I 43 v : Int32) = (-9) then ((s_X6_fails 1 (mj_upI I 42 0 0)).1, (s_X6_fails 1 (mj_upI I 42 0 0)).2) else (if (I 43 s : Int32) = I 43 v then (if (i : Int32) < 0 then ((s_X6_fails 3 (mj_upI I 42 0 0)).1, (s_X6_fails 3 (mj_upI I 42 0 0)).2) else (if (e : Int32) < 0 then ((s_X6_fails 3 (mj_upI I 42 0 0)).1, (s_X6_fails 3 (mj_upI I 42 0 0)).2) else (if (n : Int32) < 0 then ((s_X6_fails 3 (mj_upI I 42 0 0)).1, (s_X6_fails 3 (mj_upI I 42 0 0)).2) else (if (I 44 s : Int32) < i then ((s_X6_fails 3 (mj_upI I 42 0 0)).1, (s_X6_fails 3 (mj_upI I 42 0 0)).2) else (if (I 44 v : Int32) < e then ((s_X6_fails 3 (mj_upI I 42 0 0)).1, (s_X6_fails 3 (mj_upI I 42 0 0)).2) else (if ((I 44 s) - i : Int32) < n then ((s_X6_fails 3 (mj_upI I 42 0 0)).1, (s_X6_fails 3 (mj_upI I 42 0 0)).2) else (if ((I 44 v) - e : Int32) < n then ((s_X6_fails 3 (mj_upI I 42 0 0)).1, (s_X6_fails 3 (mj_upI I 42 0 0)).2) else (if (i : Int32) < e then ((s_X6_cp s i v e n.toNatClampNeg 1 1 (n.toNatClampNeg) 0  (mj_upI I 42 0 0)).1, (s_X6_cp s i v e n.toNatClampNeg 1 1 (n.toNatClampNeg) 0  (mj_upI I 42 0 0)).2) else ((s_X6_cp s i v e n.toNatClampNeg 1 0 (n.toNatClampNeg) 0  (mj_upI I 42 0 0)).1, (s_X6_cp s i v e n.toNatClampNeg 1 0 (n.toNatClampNeg) 0  (mj_upI I 42 0 0)).2))))))))) else ((s_X6_fails 2 (mj_upI I 42 0 0)).1, (s_X6_fails 2 (mj_upI I 42 0 0)).2)))))
set_option maxHeartbeats 8000000 in
theorem x_X6_copy (l : Launch) (b base : Nat) (D : va_G) (z : mj_K × (Int32 → Int32)) (N : Nat) (s : Int32) (i : Int32) (v : Int32) (e : Int32) (n : Int32) (I : mj_I) (c d r : Nat) (hL : ∀ k, mj_in k 4 → 0 ≤ (I 44 k).toInt ∧ (I 44 k).toInt ≤ 60) : mj_Rn l b base D z mj_m_X6_copy 0 [.ref 42, .int s, .int i, .int v, .int e, .int n, mj_mk, mj_mk, mj_mk, mj_mk] [] (mj_KS N, I, mj_PP c d r) (mj_E N (some (.int (s_X6_copy s i v e n I).1)) (s_X6_copy s i v e n I).2 (mj_PP c d r)) := by
  refine R_seg (φ := []) (pc' := 6) (L' := [.ref 42, .int s, .int i, .int v, .int e, .int n, mj_mk, mj_mk, mj_mk, mj_mk]) (st' := [.int s]) (σ' := (mj_KS N, (mj_upI I 42 0 0), mj_PP c d r)) 4 rfl trivial ?_
  refine R_ce (idx := 89) (mid := 96) (kind := 1) (N := N) (M' := mj_m_X6_isSheet) (As := [.int s]) (rest := []) (I := (mj_upI I 42 0 0)) (P := mj_PP c d r) (I' := (mj_upI I 42 0 0)) (P' := mj_PP c d r) (v := some (.int (s_X6_isSheet s (mj_upI I 42 0 0)))) rfl rfl rfl mj_mc96 mj_dc96 rfl rfl rfl rfl rfl rfl (x_X6_isSheet l b base D z N s (mj_upI I 42 0 0) c d r) ?_
  refine R_seg (φ := []) (pc' := 9) (L' := [.ref 42, .int s, .int i, .int v, .int e, .int n, mj_mk, mj_mk, mj_mk, mj_mk]) (st' := [.int (s_X6_isSheet s (mj_upI I 42 0 0))]) (σ' := (mj_KS N, (mj_upI I 42 0 0), mj_PP c d r)) 0 rfl trivial ?_
  refine R_br (q := ((s_X6_isSheet s (mj_upI I 42 0 0)) : Int32) = 0) (t := 19) (f := 12) (rest := []) rfl (fun h1 => ?_) (fun h1 => ?_)
  · skip
    refine R_seg (φ := []) (pc' := 20) (L' := [.ref 42, .int s, .int i, .int v, .int e, .int n, mj_mk, mj_mk, mj_mk, mj_mk]) (st' := [.int (-1)]) (σ' := (mj_KS N, (mj_upI I 42 0 0), mj_PP c d r)) 1 rfl trivial ?_
    exact R_ri rfl rfl (mj_leaf (by first | (simp only [s_X6_copy, if_pos h1, Bool.false_eq_true, ↓reduceIte, Nat.reduceAdd, Nat.reduceMul, mj_tn0, mj_tn1, mj_tn2, mj_tn3]; done) | contradiction) (by first | (simp only [s_X6_copy, if_pos h1, Bool.false_eq_true, ↓reduceIte, Nat.reduceAdd, Nat.reduceMul, mj_tn0, mj_tn1, mj_tn2, mj_tn3]; done) | contradiction))
  · skip
    refine R_seg (φ := []) (pc' := 13) (L' := [.ref 42, .int s, .int i, .int v, .int e, .int n, mj_mk, mj_mk, mj_mk, mj_mk]) (st' := [.int v]) (σ' := (mj_KS N, (mj_upI I 42 0 0), mj_PP c d r)) 1 rfl trivial ?_
    refine R_ce (idx := 89) (mid := 96) (kind := 1) (N := N) (M' := mj_m_X6_isSheet) (As := [.int v]) (rest := []) (I := (mj_upI I 42 0 0)) (P := mj_PP c d r) (I' := (mj_upI I 42 0 0)) (P' := mj_PP c d r) (v := some (.int (s_X6_isSheet v (mj_upI I 42 0 0)))) rfl rfl rfl mj_mc96 mj_dc96 rfl rfl rfl rfl rfl rfl (x_X6_isSheet l b base D z N v (mj_upI I 42 0 0) c d r) ?_
    refine R_seg (φ := []) (pc' := 16) (L' := [.ref 42, .int s, .int i, .int v, .int e, .int n, mj_mk, mj_mk, mj_mk, mj_mk]) (st' := [.int (s_X6_isSheet v (mj_upI I 42 0 0))]) (σ' := (mj_KS N, (mj_upI I 42 0 0), mj_PP c d r)) 0 rfl trivial ?_
    refine R_br (q := ((s_X6_isSheet v (mj_upI I 42 0 0)) : Int32) = 0) (t := 19) (f := 21) (rest := []) rfl (fun h2 => ?_) (fun h2 => ?_)
    · skip
      refine R_seg (φ := []) (pc' := 20) (L' := [.ref 42, .int s, .int i, .int v, .int e, .int n, mj_mk, mj_mk, mj_mk, mj_mk]) (st' := [.int (-1)]) (σ' := (mj_KS N, (mj_upI I 42 0 0), mj_PP c d r)) 1 rfl trivial ?_
      exact R_ri rfl rfl (mj_leaf (by first | (simp only [s_X6_copy, if_neg h1, if_pos h2, Bool.false_eq_true, ↓reduceIte, Nat.reduceAdd, Nat.reduceMul, mj_tn0, mj_tn1, mj_tn2, mj_tn3]; done) | contradiction) (by first | (simp only [s_X6_copy, if_neg h1, if_pos h2, Bool.false_eq_true, ↓reduceIte, Nat.reduceAdd, Nat.reduceMul, mj_tn0, mj_tn1, mj_tn2, mj_tn3]; done) | contradiction))
    · skip
      refine R_seg (φ := [mj_in s 4]) (pc' := 29) (L' := [.ref 42, .int s, .int i, .int v, .int e, .int n, mj_mk, mj_mk, mj_mk, mj_mk]) (st' := [.int (-9), .int (I 43 s)]) (σ' := (mj_KS N, (mj_upI I 42 0 0), mj_PP c d r)) 5 rfl ⟨(mj6_sh h1), trivial⟩ ?_
      refine R_br (q := (I 43 s : Int32) = (-9)) (t := 43) (f := 32) (rest := []) rfl (fun h3 => ?_) (fun h3 => ?_)
      · skip
        refine R_seg (φ := []) (pc' := 45) (L' := [.ref 42, .int s, .int i, .int v, .int e, .int n, mj_mk, mj_mk, mj_mk, mj_mk]) (st' := [.int 1, .ref 42]) (σ' := (mj_KS N, (mj_upI I 42 0 0), mj_PP c d r)) 2 rfl trivial ?_
        refine R_ce (idx := 100) (mid := 93) (kind := 0) (N := N) (M' := mj_m_X6_fails) (As := [.ref 42, .int 1]) (rest := []) (I := (mj_upI I 42 0 0)) (P := mj_PP c d r) (I' := (s_X6_fails 1 (mj_upI I 42 0 0)).2) (P' := mj_PP c d r) (v := some (.int ((s_X6_fails 1 (mj_upI I 42 0 0)).1))) rfl rfl rfl mj_mc93 mj_dc93 rfl rfl rfl rfl rfl rfl (x_X6_fails l b base D z N 1 (mj_upI I 42 0 0) c d r) ?_
        refine R_seg (φ := []) (pc' := 48) (L' := [.ref 42, .int s, .int i, .int v, .int e, .int n, mj_mk, mj_mk, mj_mk, mj_mk]) (st' := [.int ((s_X6_fails 1 (mj_upI I 42 0 0)).1)]) (σ' := (mj_KS N, (s_X6_fails 1 (mj_upI I 42 0 0)).2, mj_PP c d r)) 0 rfl trivial ?_
        exact R_ri rfl rfl (mj_leaf (by first | (simp only [s_X6_copy, if_neg h1, if_neg h2, if_pos h3, Bool.false_eq_true, ↓reduceIte, Nat.reduceAdd, Nat.reduceMul, mj_tn0, mj_tn1, mj_tn2, mj_tn3]; done) | contradiction) (by first | (simp only [s_X6_copy, if_neg h1, if_neg h2, if_pos h3, Bool.false_eq_true, ↓reduceIte, Nat.reduceAdd, Nat.reduceMul, mj_tn0, mj_tn1, mj_tn2, mj_tn3]; done) | contradiction))
      · skip
        refine R_seg (φ := [mj_in v 4]) (pc' := 40) (L' := [.ref 42, .int s, .int i, .int v, .int e, .int n, mj_mk, mj_mk, mj_mk, mj_mk]) (st' := [.int (-9), .int (I 43 v)]) (σ' := (mj_KS N, (mj_upI I 42 0 0), mj_PP c d r)) 5 rfl ⟨(mj6_sh h2), trivial⟩ ?_
        refine R_br (q := (I 43 v : Int32) = (-9)) (t := 43) (f := 49) (rest := []) rfl (fun h4 => ?_) (fun h4 => ?_)
        · skip
          refine R_seg (φ := []) (pc' := 45) (L' := [.ref 42, .int s, .int i, .int v, .int e, .int n, mj_mk, mj_mk, mj_mk, mj_mk]) (st' := [.int 1, .ref 42]) (σ' := (mj_KS N, (mj_upI I 42 0 0), mj_PP c d r)) 2 rfl trivial ?_
          refine R_ce (idx := 100) (mid := 93) (kind := 0) (N := N) (M' := mj_m_X6_fails) (As := [.ref 42, .int 1]) (rest := []) (I := (mj_upI I 42 0 0)) (P := mj_PP c d r) (I' := (s_X6_fails 1 (mj_upI I 42 0 0)).2) (P' := mj_PP c d r) (v := some (.int ((s_X6_fails 1 (mj_upI I 42 0 0)).1))) rfl rfl rfl mj_mc93 mj_dc93 rfl rfl rfl rfl rfl rfl (x_X6_fails l b base D z N 1 (mj_upI I 42 0 0) c d r) ?_
          refine R_seg (φ := []) (pc' := 48) (L' := [.ref 42, .int s, .int i, .int v, .int e, .int n, mj_mk, mj_mk, mj_mk, mj_mk]) (st' := [.int ((s_X6_fails 1 (mj_upI I 42 0 0)).1)]) (σ' := (mj_KS N, (s_X6_fails 1 (mj_upI I 42 0 0)).2, mj_PP c d r)) 0 rfl trivial ?_
          exact R_ri rfl rfl (mj_leaf (by first | (simp only [s_X6_copy, if_neg h1, if_neg h2, if_neg h3, if_pos h4, Bool.false_eq_true, ↓reduceIte, Nat.reduceAdd, Nat.reduceMul, mj_tn0, mj_tn1, mj_tn2, mj_tn3]; done) | contradiction) (by first | (simp only [s_X6_copy, if_neg h1, if_neg h2, if_neg h3, if_pos h4, Bool.false_eq_true, ↓reduceIte, Nat.reduceAdd, Nat.reduceMul, mj_tn0, mj_tn1, mj_tn2, mj_tn3]; done) | contradiction))
        · skip
          refine R_seg (φ := [mj_in s 4, mj_in v 4]) (pc' := 61) (L' := [.ref 42, .int s, .int i, .int v, .int e, .int n, mj_mk, mj_mk, mj_mk, mj_mk]) (st' := [.int (I 43 v), .int (I 43 s)]) (σ' := (mj_KS N, (mj_upI I 42 0 0), mj_PP c d r)) 8 rfl ⟨(mj6_sh h1), (mj6_sh h2), trivial⟩ ?_
          refine R_br (q := (I 43 s : Int32) = I 43 v) (t := 70) (f := 64) (rest := []) rfl (fun h5 => ?_) (fun h5 => ?_)
          · skip
            refine R_seg (φ := []) (pc' := 71) (L' := [.ref 42, .int s, .int i, .int v, .int e, .int n, mj_mk, mj_mk, mj_mk, mj_mk]) (st' := [.int i]) (σ' := (mj_KS N, (mj_upI I 42 0 0), mj_PP c d r)) 1 rfl trivial ?_
            refine R_br (q := (i : Int32) < 0) (t := 109) (f := 74) (rest := []) rfl (fun h6 => ?_) (fun h6 => ?_)
            · skip
              refine R_seg (φ := []) (pc' := 114) (L' := [.ref 42, .int s, .int i, .int v, .int e, .int n, .int 0, mj_mk, mj_mk, mj_mk]) (st' := [.int 0]) (σ' := (mj_KS N, (mj_upI I 42 0 0), mj_PP c d r)) 3 rfl trivial ?_
              refine R_br (q := (0 : Int32) = 0) (t := 144) (f := 117) (rest := []) rfl (fun h7 => ?_) (fun h7 => absurd (by decide) h7)
              refine R_seg (φ := []) (pc' := 146) (L' := [.ref 42, .int s, .int i, .int v, .int e, .int n, .int 0, mj_mk, mj_mk, mj_mk]) (st' := [.int 3, .ref 42]) (σ' := (mj_KS N, (mj_upI I 42 0 0), mj_PP c d r)) 2 rfl trivial ?_
              refine R_ce (idx := 100) (mid := 93) (kind := 0) (N := N) (M' := mj_m_X6_fails) (As := [.ref 42, .int 3]) (rest := []) (I := (mj_upI I 42 0 0)) (P := mj_PP c d r) (I' := (s_X6_fails 3 (mj_upI I 42 0 0)).2) (P' := mj_PP c d r) (v := some (.int ((s_X6_fails 3 (mj_upI I 42 0 0)).1))) rfl rfl rfl mj_mc93 mj_dc93 rfl rfl rfl rfl rfl rfl (x_X6_fails l b base D z N 3 (mj_upI I 42 0 0) c d r) ?_
              refine R_seg (φ := []) (pc' := 149) (L' := [.ref 42, .int s, .int i, .int v, .int e, .int n, .int 0, mj_mk, mj_mk, mj_mk]) (st' := [.int ((s_X6_fails 3 (mj_upI I 42 0 0)).1)]) (σ' := (mj_KS N, (s_X6_fails 3 (mj_upI I 42 0 0)).2, mj_PP c d r)) 0 rfl trivial ?_
              exact R_ri rfl rfl (mj_leaf (by first | (simp only [s_X6_copy, if_neg h1, if_neg h2, if_neg h3, if_neg h4, if_pos h5, if_pos h6, Bool.false_eq_true, ↓reduceIte, Nat.reduceAdd, Nat.reduceMul, mj_tn0, mj_tn1, mj_tn2, mj_tn3]; done) | contradiction) (by first | (simp only [s_X6_copy, if_neg h1, if_neg h2, if_neg h3, if_neg h4, if_pos h5, if_pos h6, Bool.false_eq_true, ↓reduceIte, Nat.reduceAdd, Nat.reduceMul, mj_tn0, mj_tn1, mj_tn2, mj_tn3]; done) | contradiction))
            · skip
              refine R_seg (φ := []) (pc' := 76) (L' := [.ref 42, .int s, .int i, .int v, .int e, .int n, mj_mk, mj_mk, mj_mk, mj_mk]) (st' := [.int e]) (σ' := (mj_KS N, (mj_upI I 42 0 0), mj_PP c d r)) 1 rfl trivial ?_
              refine R_br (q := (e : Int32) < 0) (t := 109) (f := 79) (rest := []) rfl (fun h8 => ?_) (fun h8 => ?_)
              · skip
                refine R_seg (φ := []) (pc' := 114) (L' := [.ref 42, .int s, .int i, .int v, .int e, .int n, .int 0, mj_mk, mj_mk, mj_mk]) (st' := [.int 0]) (σ' := (mj_KS N, (mj_upI I 42 0 0), mj_PP c d r)) 3 rfl trivial ?_
                refine R_br (q := (0 : Int32) = 0) (t := 144) (f := 117) (rest := []) rfl (fun h9 => ?_) (fun h9 => absurd (by decide) h9)
                refine R_seg (φ := []) (pc' := 146) (L' := [.ref 42, .int s, .int i, .int v, .int e, .int n, .int 0, mj_mk, mj_mk, mj_mk]) (st' := [.int 3, .ref 42]) (σ' := (mj_KS N, (mj_upI I 42 0 0), mj_PP c d r)) 2 rfl trivial ?_
                refine R_ce (idx := 100) (mid := 93) (kind := 0) (N := N) (M' := mj_m_X6_fails) (As := [.ref 42, .int 3]) (rest := []) (I := (mj_upI I 42 0 0)) (P := mj_PP c d r) (I' := (s_X6_fails 3 (mj_upI I 42 0 0)).2) (P' := mj_PP c d r) (v := some (.int ((s_X6_fails 3 (mj_upI I 42 0 0)).1))) rfl rfl rfl mj_mc93 mj_dc93 rfl rfl rfl rfl rfl rfl (x_X6_fails l b base D z N 3 (mj_upI I 42 0 0) c d r) ?_
                refine R_seg (φ := []) (pc' := 149) (L' := [.ref 42, .int s, .int i, .int v, .int e, .int n, .int 0, mj_mk, mj_mk, mj_mk]) (st' := [.int ((s_X6_fails 3 (mj_upI I 42 0 0)).1)]) (σ' := (mj_KS N, (s_X6_fails 3 (mj_upI I 42 0 0)).2, mj_PP c d r)) 0 rfl trivial ?_
                exact R_ri rfl rfl (mj_leaf (by first | (simp only [s_X6_copy, if_neg h1, if_neg h2, if_neg h3, if_neg h4, if_pos h5, if_neg h6, if_pos h8, Bool.false_eq_true, ↓reduceIte, Nat.reduceAdd, Nat.reduceMul, mj_tn0, mj_tn1, mj_tn2, mj_tn3]; done) | contradiction) (by first | (simp only [s_X6_copy, if_neg h1, if_neg h2, if_neg h3, if_neg h4, if_pos h5, if_neg h6, if_pos h8, Bool.false_eq_true, ↓reduceIte, Nat.reduceAdd, Nat.reduceMul, mj_tn0, mj_tn1, mj_tn2, mj_tn3]; done) | contradiction))
              · skip
                refine R_seg (φ := []) (pc' := 81) (L' := [.ref 42, .int s, .int i, .int v, .int e, .int n, mj_mk, mj_mk, mj_mk, mj_mk]) (st' := [.int n]) (σ' := (mj_KS N, (mj_upI I 42 0 0), mj_PP c d r)) 1 rfl trivial ?_
                refine R_br (q := (n : Int32) < 0) (t := 109) (f := 84) (rest := []) rfl (fun h10 => ?_) (fun h10 => ?_)
                · skip
                  refine R_seg (φ := []) (pc' := 114) (L' := [.ref 42, .int s, .int i, .int v, .int e, .int n, .int 0, mj_mk, mj_mk, mj_mk]) (st' := [.int 0]) (σ' := (mj_KS N, (mj_upI I 42 0 0), mj_PP c d r)) 3 rfl trivial ?_
                  refine R_br (q := (0 : Int32) = 0) (t := 144) (f := 117) (rest := []) rfl (fun h11 => ?_) (fun h11 => absurd (by decide) h11)
                  refine R_seg (φ := []) (pc' := 146) (L' := [.ref 42, .int s, .int i, .int v, .int e, .int n, .int 0, mj_mk, mj_mk, mj_mk]) (st' := [.int 3, .ref 42]) (σ' := (mj_KS N, (mj_upI I 42 0 0), mj_PP c d r)) 2 rfl trivial ?_
                  refine R_ce (idx := 100) (mid := 93) (kind := 0) (N := N) (M' := mj_m_X6_fails) (As := [.ref 42, .int 3]) (rest := []) (I := (mj_upI I 42 0 0)) (P := mj_PP c d r) (I' := (s_X6_fails 3 (mj_upI I 42 0 0)).2) (P' := mj_PP c d r) (v := some (.int ((s_X6_fails 3 (mj_upI I 42 0 0)).1))) rfl rfl rfl mj_mc93 mj_dc93 rfl rfl rfl rfl rfl rfl (x_X6_fails l b base D z N 3 (mj_upI I 42 0 0) c d r) ?_
                  refine R_seg (φ := []) (pc' := 149) (L' := [.ref 42, .int s, .int i, .int v, .int e, .int n, .int 0, mj_mk, mj_mk, mj_mk]) (st' := [.int ((s_X6_fails 3 (mj_upI I 42 0 0)).1)]) (σ' := (mj_KS N, (s_X6_fails 3 (mj_upI I 42 0 0)).2, mj_PP c d r)) 0 rfl trivial ?_
                  exact R_ri rfl rfl (mj_leaf (by first | (simp only [s_X6_copy, if_neg h1, if_neg h2, if_neg h3, if_neg h4, if_pos h5, if_neg h6, if_neg h8, if_pos h10, Bool.false_eq_true, ↓reduceIte, Nat.reduceAdd, Nat.reduceMul, mj_tn0, mj_tn1, mj_tn2, mj_tn3]; done) | contradiction) (by first | (simp only [s_X6_copy, if_neg h1, if_neg h2, if_neg h3, if_neg h4, if_pos h5, if_neg h6, if_neg h8, if_pos h10, Bool.false_eq_true, ↓reduceIte, Nat.reduceAdd, Nat.reduceMul, mj_tn0, mj_tn1, mj_tn2, mj_tn3]; done) | contradiction))
                · skip
                  refine R_seg (φ := [mj_in s 4]) (pc' := 91) (L' := [.ref 42, .int s, .int i, .int v, .int e, .int n, mj_mk, mj_mk, mj_mk, mj_mk]) (st' := [.int (I 44 s), .int i]) (σ' := (mj_KS N, (mj_upI I 42 0 0), mj_PP c d r)) 5 rfl ⟨(mj6_sh h1), trivial⟩ ?_
                  refine R_br (q := (I 44 s : Int32) < i) (t := 109) (f := 94) (rest := []) rfl (fun h12 => ?_) (fun h12 => ?_)
                  · skip
                    refine R_seg (φ := []) (pc' := 114) (L' := [.ref 42, .int s, .int i, .int v, .int e, .int n, .int 0, mj_mk, mj_mk, mj_mk]) (st' := [.int 0]) (σ' := (mj_KS N, (mj_upI I 42 0 0), mj_PP c d r)) 3 rfl trivial ?_
                    refine R_br (q := (0 : Int32) = 0) (t := 144) (f := 117) (rest := []) rfl (fun h13 => ?_) (fun h13 => absurd (by decide) h13)
                    refine R_seg (φ := []) (pc' := 146) (L' := [.ref 42, .int s, .int i, .int v, .int e, .int n, .int 0, mj_mk, mj_mk, mj_mk]) (st' := [.int 3, .ref 42]) (σ' := (mj_KS N, (mj_upI I 42 0 0), mj_PP c d r)) 2 rfl trivial ?_
                    refine R_ce (idx := 100) (mid := 93) (kind := 0) (N := N) (M' := mj_m_X6_fails) (As := [.ref 42, .int 3]) (rest := []) (I := (mj_upI I 42 0 0)) (P := mj_PP c d r) (I' := (s_X6_fails 3 (mj_upI I 42 0 0)).2) (P' := mj_PP c d r) (v := some (.int ((s_X6_fails 3 (mj_upI I 42 0 0)).1))) rfl rfl rfl mj_mc93 mj_dc93 rfl rfl rfl rfl rfl rfl (x_X6_fails l b base D z N 3 (mj_upI I 42 0 0) c d r) ?_
                    refine R_seg (φ := []) (pc' := 149) (L' := [.ref 42, .int s, .int i, .int v, .int e, .int n, .int 0, mj_mk, mj_mk, mj_mk]) (st' := [.int ((s_X6_fails 3 (mj_upI I 42 0 0)).1)]) (σ' := (mj_KS N, (s_X6_fails 3 (mj_upI I 42 0 0)).2, mj_PP c d r)) 0 rfl trivial ?_
                    exact R_ri rfl rfl (mj_leaf (by first | (simp only [s_X6_copy, if_neg h1, if_neg h2, if_neg h3, if_neg h4, if_pos h5, if_neg h6, if_neg h8, if_neg h10, if_pos h12, Bool.false_eq_true, ↓reduceIte, Nat.reduceAdd, Nat.reduceMul, mj_tn0, mj_tn1, mj_tn2, mj_tn3]; done) | contradiction) (by first | (simp only [s_X6_copy, if_neg h1, if_neg h2, if_neg h3, if_neg h4, if_pos h5, if_neg h6, if_neg h8, if_neg h10, if_pos h12, Bool.false_eq_true, ↓reduceIte, Nat.reduceAdd, Nat.reduceMul, mj_tn0, mj_tn1, mj_tn2, mj_tn3]; done) | contradiction))
                  · skip
                    refine R_seg (φ := [mj_in v 4]) (pc' := 102) (L' := [.ref 42, .int s, .int i, .int v, .int e, .int n, mj_mk, mj_mk, mj_mk, mj_mk]) (st' := [.int (I 44 v), .int e]) (σ' := (mj_KS N, (mj_upI I 42 0 0), mj_PP c d r)) 5 rfl ⟨(mj6_sh h2), trivial⟩ ?_
                    refine R_br (q := (I 44 v : Int32) < e) (t := 109) (f := 105) (rest := []) rfl (fun h14 => ?_) (fun h14 => ?_)
                    · skip
                      refine R_seg (φ := []) (pc' := 114) (L' := [.ref 42, .int s, .int i, .int v, .int e, .int n, .int 0, mj_mk, mj_mk, mj_mk]) (st' := [.int 0]) (σ' := (mj_KS N, (mj_upI I 42 0 0), mj_PP c d r)) 3 rfl trivial ?_
                      refine R_br (q := (0 : Int32) = 0) (t := 144) (f := 117) (rest := []) rfl (fun h15 => ?_) (fun h15 => absurd (by decide) h15)
                      refine R_seg (φ := []) (pc' := 146) (L' := [.ref 42, .int s, .int i, .int v, .int e, .int n, .int 0, mj_mk, mj_mk, mj_mk]) (st' := [.int 3, .ref 42]) (σ' := (mj_KS N, (mj_upI I 42 0 0), mj_PP c d r)) 2 rfl trivial ?_
                      refine R_ce (idx := 100) (mid := 93) (kind := 0) (N := N) (M' := mj_m_X6_fails) (As := [.ref 42, .int 3]) (rest := []) (I := (mj_upI I 42 0 0)) (P := mj_PP c d r) (I' := (s_X6_fails 3 (mj_upI I 42 0 0)).2) (P' := mj_PP c d r) (v := some (.int ((s_X6_fails 3 (mj_upI I 42 0 0)).1))) rfl rfl rfl mj_mc93 mj_dc93 rfl rfl rfl rfl rfl rfl (x_X6_fails l b base D z N 3 (mj_upI I 42 0 0) c d r) ?_
                      refine R_seg (φ := []) (pc' := 149) (L' := [.ref 42, .int s, .int i, .int v, .int e, .int n, .int 0, mj_mk, mj_mk, mj_mk]) (st' := [.int ((s_X6_fails 3 (mj_upI I 42 0 0)).1)]) (σ' := (mj_KS N, (s_X6_fails 3 (mj_upI I 42 0 0)).2, mj_PP c d r)) 0 rfl trivial ?_
                      exact R_ri rfl rfl (mj_leaf (by first | (simp only [s_X6_copy, if_neg h1, if_neg h2, if_neg h3, if_neg h4, if_pos h5, if_neg h6, if_neg h8, if_neg h10, if_neg h12, if_pos h14, Bool.false_eq_true, ↓reduceIte, Nat.reduceAdd, Nat.reduceMul, mj_tn0, mj_tn1, mj_tn2, mj_tn3]; done) | contradiction) (by first | (simp only [s_X6_copy, if_neg h1, if_neg h2, if_neg h3, if_neg h4, if_pos h5, if_neg h6, if_neg h8, if_neg h10, if_neg h12, if_pos h14, Bool.false_eq_true, ↓reduceIte, Nat.reduceAdd, Nat.reduceMul, mj_tn0, mj_tn1, mj_tn2, mj_tn3]; done) | contradiction))
                    · skip
                      refine R_seg (φ := []) (pc' := 114) (L' := [.ref 42, .int s, .int i, .int v, .int e, .int n, .int 1, mj_mk, mj_mk, mj_mk]) (st' := [.int 1]) (σ' := (mj_KS N, (mj_upI I 42 0 0), mj_PP c d r)) 4 rfl trivial ?_
                      refine R_br (q := (1 : Int32) = 0) (t := 144) (f := 117) (rest := []) rfl (fun h16 => absurd h16 (by decide)) (fun h16 => ?_)
                      refine R_seg (φ := [mj_in s 4]) (pc' := 127) (L' := [.ref 42, .int s, .int i, .int v, .int e, .int n, .int 1, mj_mk, mj_mk, mj_mk]) (st' := [.int ((I 44 s) - i), .int n]) (σ' := (mj_KS N, (mj_upI I 42 0 0), mj_PP c d r)) 7 rfl ⟨(mj6_sh h1), trivial⟩ ?_
                      refine R_br (q := ((I 44 s) - i : Int32) < n) (t := 144) (f := 130) (rest := []) rfl (fun h17 => ?_) (fun h17 => ?_)
                      · skip
                        refine R_seg (φ := []) (pc' := 146) (L' := [.ref 42, .int s, .int i, .int v, .int e, .int n, .int 1, mj_mk, mj_mk, mj_mk]) (st' := [.int 3, .ref 42]) (σ' := (mj_KS N, (mj_upI I 42 0 0), mj_PP c d r)) 2 rfl trivial ?_
                        refine R_ce (idx := 100) (mid := 93) (kind := 0) (N := N) (M' := mj_m_X6_fails) (As := [.ref 42, .int 3]) (rest := []) (I := (mj_upI I 42 0 0)) (P := mj_PP c d r) (I' := (s_X6_fails 3 (mj_upI I 42 0 0)).2) (P' := mj_PP c d r) (v := some (.int ((s_X6_fails 3 (mj_upI I 42 0 0)).1))) rfl rfl rfl mj_mc93 mj_dc93 rfl rfl rfl rfl rfl rfl (x_X6_fails l b base D z N 3 (mj_upI I 42 0 0) c d r) ?_
                        refine R_seg (φ := []) (pc' := 149) (L' := [.ref 42, .int s, .int i, .int v, .int e, .int n, .int 1, mj_mk, mj_mk, mj_mk]) (st' := [.int ((s_X6_fails 3 (mj_upI I 42 0 0)).1)]) (σ' := (mj_KS N, (s_X6_fails 3 (mj_upI I 42 0 0)).2, mj_PP c d r)) 0 rfl trivial ?_
                        exact R_ri rfl rfl (mj_leaf (by first | (simp only [s_X6_copy, if_neg h1, if_neg h2, if_neg h3, if_neg h4, if_pos h5, if_neg h6, if_neg h8, if_neg h10, if_neg h12, if_neg h14, if_pos h17, Bool.false_eq_true, ↓reduceIte, Nat.reduceAdd, Nat.reduceMul, mj_tn0, mj_tn1, mj_tn2, mj_tn3]; done) | contradiction) (by first | (simp only [s_X6_copy, if_neg h1, if_neg h2, if_neg h3, if_neg h4, if_pos h5, if_neg h6, if_neg h8, if_neg h10, if_neg h12, if_neg h14, if_pos h17, Bool.false_eq_true, ↓reduceIte, Nat.reduceAdd, Nat.reduceMul, mj_tn0, mj_tn1, mj_tn2, mj_tn3]; done) | contradiction))
                      · skip
                        refine R_seg (φ := [mj_in v 4]) (pc' := 141) (L' := [.ref 42, .int s, .int i, .int v, .int e, .int n, .int 1, mj_mk, mj_mk, mj_mk]) (st' := [.int ((I 44 v) - e), .int n]) (σ' := (mj_KS N, (mj_upI I 42 0 0), mj_PP c d r)) 7 rfl ⟨(mj6_sh h2), trivial⟩ ?_
                        refine R_br (q := ((I 44 v) - e : Int32) < n) (t := 144) (f := 150) (rest := []) rfl (fun h18 => ?_) (fun h18 => ?_)
                        · skip
                          refine R_seg (φ := []) (pc' := 146) (L' := [.ref 42, .int s, .int i, .int v, .int e, .int n, .int 1, mj_mk, mj_mk, mj_mk]) (st' := [.int 3, .ref 42]) (σ' := (mj_KS N, (mj_upI I 42 0 0), mj_PP c d r)) 2 rfl trivial ?_
                          refine R_ce (idx := 100) (mid := 93) (kind := 0) (N := N) (M' := mj_m_X6_fails) (As := [.ref 42, .int 3]) (rest := []) (I := (mj_upI I 42 0 0)) (P := mj_PP c d r) (I' := (s_X6_fails 3 (mj_upI I 42 0 0)).2) (P' := mj_PP c d r) (v := some (.int ((s_X6_fails 3 (mj_upI I 42 0 0)).1))) rfl rfl rfl mj_mc93 mj_dc93 rfl rfl rfl rfl rfl rfl (x_X6_fails l b base D z N 3 (mj_upI I 42 0 0) c d r) ?_
                          refine R_seg (φ := []) (pc' := 149) (L' := [.ref 42, .int s, .int i, .int v, .int e, .int n, .int 1, mj_mk, mj_mk, mj_mk]) (st' := [.int ((s_X6_fails 3 (mj_upI I 42 0 0)).1)]) (σ' := (mj_KS N, (s_X6_fails 3 (mj_upI I 42 0 0)).2, mj_PP c d r)) 0 rfl trivial ?_
                          exact R_ri rfl rfl (mj_leaf (by first | (simp only [s_X6_copy, if_neg h1, if_neg h2, if_neg h3, if_neg h4, if_pos h5, if_neg h6, if_neg h8, if_neg h10, if_neg h12, if_neg h14, if_neg h17, if_pos h18, Bool.false_eq_true, ↓reduceIte, Nat.reduceAdd, Nat.reduceMul, mj_tn0, mj_tn1, mj_tn2, mj_tn3]; done) | contradiction) (by first | (simp only [s_X6_copy, if_neg h1, if_neg h2, if_neg h3, if_neg h4, if_pos h5, if_neg h6, if_neg h8, if_neg h10, if_neg h12, if_neg h14, if_neg h17, if_pos h18, Bool.false_eq_true, ↓reduceIte, Nat.reduceAdd, Nat.reduceMul, mj_tn0, mj_tn1, mj_tn2, mj_tn3]; done) | contradiction))
                        · skip
                          obtain ⟨m, hn, hi⟩ := mj6_cpm h10 h17 h6 h12 (hL s (mj6_sh h1))
                          have hm : m ≤ 60 := by omega
                          have he := mj6_cpi hn hm h18 h8 h14 (hL v (mj6_sh h2))
                          subst hn
                          · skip
                            refine R_seg (φ := []) (pc' := 153) (L' := [.ref 42, .int s, .int i, .int v, .int e, .int ((nI m)), .int 1, mj_mk, mj_mk, mj_mk]) (st' := [.int e, .int i]) (σ' := (mj_KS N, (mj_upI I 42 0 0), mj_PP c d r)) 2 rfl trivial ?_
                            refine R_br (q := (i : Int32) < e) (t := 156) (f := 160) (rest := []) rfl (fun h19 => ?_) (fun h19 => ?_)
                            · skip
                              refine R_seg (φ := []) (pc' := 166) (L' := [.ref 42, .int s, .int i, .int v, .int e, .int ((nI m)), .int 1, .int 1, .int 0, mj_mk]) (st' := []) (σ' := (mj_KS N, (mj_upI I 42 0 0), mj_PP c d r)) 5 rfl trivial ?_
                              simp only [s_X6_copy, mj_tnm (show m < 2147483648 by omega), if_neg h1, if_neg h2, if_neg h3, if_neg h4, if_pos h5, if_neg h6, if_neg h8, if_neg h10, if_neg h12, if_neg h14, if_neg h17, if_neg h18, if_pos h19, Bool.false_eq_true, ↓reduceIte, Nat.reduceAdd, Nat.reduceMul, mj_tn0, mj_tn1, mj_tn2, mj_tn3]
                              exact x_X6_cp l b base D z N s i v e m 1 1 c d r hm (mj6_sh h1) (mj6_sh h2) hi he (m) 0  mj_mk (mj_upI I 42 0 0) (by omega) (by omega) (by omega)
                            · skip
                              refine R_seg (φ := []) (pc' := 166) (L' := [.ref 42, .int s, .int i, .int v, .int e, .int ((nI m)), .int 1, .int 0, .int 0, mj_mk]) (st' := []) (σ' := (mj_KS N, (mj_upI I 42 0 0), mj_PP c d r)) 4 rfl trivial ?_
                              simp only [s_X6_copy, mj_tnm (show m < 2147483648 by omega), if_neg h1, if_neg h2, if_neg h3, if_neg h4, if_pos h5, if_neg h6, if_neg h8, if_neg h10, if_neg h12, if_neg h14, if_neg h17, if_neg h18, if_neg h19, Bool.false_eq_true, ↓reduceIte, Nat.reduceAdd, Nat.reduceMul, mj_tn0, mj_tn1, mj_tn2, mj_tn3]
                              exact x_X6_cp l b base D z N s i v e m 1 0 c d r hm (mj6_sh h1) (mj6_sh h2) hi he (m) 0  mj_mk (mj_upI I 42 0 0) (by omega) (by omega) (by omega)
          · skip
            refine R_seg (φ := []) (pc' := 66) (L' := [.ref 42, .int s, .int i, .int v, .int e, .int n, mj_mk, mj_mk, mj_mk, mj_mk]) (st' := [.int 2, .ref 42]) (σ' := (mj_KS N, (mj_upI I 42 0 0), mj_PP c d r)) 2 rfl trivial ?_
            refine R_ce (idx := 100) (mid := 93) (kind := 0) (N := N) (M' := mj_m_X6_fails) (As := [.ref 42, .int 2]) (rest := []) (I := (mj_upI I 42 0 0)) (P := mj_PP c d r) (I' := (s_X6_fails 2 (mj_upI I 42 0 0)).2) (P' := mj_PP c d r) (v := some (.int ((s_X6_fails 2 (mj_upI I 42 0 0)).1))) rfl rfl rfl mj_mc93 mj_dc93 rfl rfl rfl rfl rfl rfl (x_X6_fails l b base D z N 2 (mj_upI I 42 0 0) c d r) ?_
            refine R_seg (φ := []) (pc' := 69) (L' := [.ref 42, .int s, .int i, .int v, .int e, .int n, mj_mk, mj_mk, mj_mk, mj_mk]) (st' := [.int ((s_X6_fails 2 (mj_upI I 42 0 0)).1)]) (σ' := (mj_KS N, (s_X6_fails 2 (mj_upI I 42 0 0)).2, mj_PP c d r)) 0 rfl trivial ?_
            exact R_ri rfl rfl (mj_leaf (by first | (simp only [s_X6_copy, if_neg h1, if_neg h2, if_neg h3, if_neg h4, if_neg h5, Bool.false_eq_true, ↓reduceIte, Nat.reduceAdd, Nat.reduceMul, mj_tn0, mj_tn1, mj_tn2, mj_tn3]; done) | contradiction) (by first | (simp only [s_X6_copy, if_neg h1, if_neg h2, if_neg h3, if_neg h4, if_neg h5, Bool.false_eq_true, ↓reduceIte, Nat.reduceAdd, Nat.reduceMul, mj_tn0, mj_tn1, mj_tn2, mj_tn3]; done) | contradiction))
def mj6_T (e : Int32) (I : mj_I) : Prop := (0 ≤ (I 42 11).toInt ∧ (I 42 11).toInt ≤ 240) ∧ e.toInt ≤ 240
theorem mj6_Tin {e : Int32} {I : mj_I} (h : mj6_T e I) (h1 : I 42 11 < e) : mj_in (I 42 11) 240 := by
  have a := mj_iL h1
  obtain ⟨b, c⟩ := h
  exact mj_mkin ⟨b.1, by omega⟩
theorem mj6_at1 {x : Int32} : x + 1 - 1 = x := by
  refine mj_ofI ?_
  have e1 : (1 : Int32).toInt = 1 := by decide
  rw [Int32.toInt_sub, Int32.toInt_add, e1, Int.bmod_sub_bmod]
  rw [show x.toInt + 1 - 1 = x.toInt by omega]
  exact mj_bmod (Int32.le_toInt x) (Int32.toInt_lt x)
theorem mj6_Tin1 {e : Int32} {I : mj_I} (h : mj6_T e I) (h1 : I 42 11 < e) : mj_in (I 42 11 + 1 - 1) 240 := by
  rw [mj6_at1]
  exact mj6_Tin h h1
theorem mj6_T1 {e : Int32} {I : mj_I} (h : mj6_T e I) (h1 : I 42 11 < e) : mj6_T e (mj_upI I 42 11 (I 42 11 + 1)) := by
  have a := mj_iL h1
  obtain ⟨b, c⟩ := h
  have e1 : (1 : Int32).toInt = 1 := by decide
  refine ⟨?_, c⟩
  rw [mj_upI_eq, if_pos rfl, mj_iadd (by omega) (by omega), e1]
  omega
