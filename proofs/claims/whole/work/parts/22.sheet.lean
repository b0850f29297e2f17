/-! filling; sheets -/
def mj_fil (I : mj_I) (A n : Nat) (v : Int32) : mj_I := mj_rwI I A (fun y => if 0 ≤ y.toInt ∧ y.toInt < (n : Int) then v else I A y)
theorem mj_fil_0 {I : mj_I} {A : Nat} {v : Int32} : mj_fil I A 0 v = I := by
  funext x y
  unfold mj_fil
  by_cases h : x = A
  · subst h
    rw [mj_rwI_eq, if_neg (by omega)]
  · rw [mj_rwI_ne h]
theorem mj_nI_iff {j : Nat} (hj : j < 2 ^ 31) (y : Int32) : y = nI j ↔ y.toInt = (j : Int) := by
  constructor
  · rintro rfl
    exact nI_toInt hj
  · intro h
    exact Int32.toInt_inj.mp (h.trans (nI_toInt hj).symm)
theorem mj_fil_step {I : mj_I} {A j : Nat} {v : Int32} (hj : j < 2 ^ 31) : mj_upI (mj_fil I A j v) A (nI j) v = mj_fil I A (j + 1) v := by
  funext x y
  unfold mj_fil
  by_cases h : x = A
  · subst h
    rw [mj_upI_eq, mj_rwI_eq, mj_rwI_eq]
    have h1 := mj_nI_iff hj y
    by_cases h2 : y = nI j
    · rw [if_pos h2, if_pos (by have := h1.mp h2; omega)]
    · rw [if_neg h2]
      have h3 : ¬ y.toInt = (j : Int) := fun q => h2 (h1.mpr q)
      by_cases h4 : 0 ≤ y.toInt ∧ y.toInt < (j : Int)
      · rw [if_pos h4, if_pos (by omega)]
      · rw [if_neg h4, if_neg (by omega)]
  · rw [mj_upI_ne h, mj_rwI_ne h, mj_rwI_ne h]
set_option maxHeartbeats 4000000 in
theorem x_fill_l35 (l : Launch) (b base : Nat) (D : va_G) (z : mj_K × (Int32 → Int32)) (N : Nat) (I : mj_I) (v : Int32) (c d r : Nat) : ∀ (k j : Nat), k = 60 - j → j ≤ 60 → mj_Rn l b base D z mj_m_J7_fill_53178 5 [.ref 35, .int v, .int (nI j), .int 60] [] (mj_KS N, mj_fil I 35 j v, mj_PP c d r) (mj_E N none (mj_fil I 35 60 v) (mj_PP c d r)) := by
  intro k
  induction k with
  | zero =>
    intro j  hk hj
    refine R_seg (φ := []) (pc' := 7) (L' := [.ref 35, .int v, .int (nI j), .int 60]) (st' := [.int 60, .int (nI j)]) (σ' := (mj_KS N, mj_fil I 35 j v, mj_PP c d r)) 2 rfl trivial ?_
    refine R_br (q := (nI j : Int32) < 60) (t := 10) (f := 20) (rest := []) rfl (fun h1 => absurd h1 (show ¬ nI j < nI 60 from nI_nlt (by omega) (by omega))) (fun h1 => ?_)
    exact R_rv rfl rfl (mj_leaf rfl (by rw [show j = 60 by omega]))
  | succ k ih =>
    intro j  hk hj
    have hjm : j < 60 := by omega
    refine R_seg (φ := []) (pc' := 7) (L' := [.ref 35, .int v, .int (nI j), .int 60]) (st' := [.int 60, .int (nI j)]) (σ' := (mj_KS N, mj_fil I 35 j v, mj_PP c d r)) 2 rfl trivial ?_
    refine R_br (q := (nI j : Int32) < 60) (t := 10) (f := 20) (rest := []) rfl (fun h1 => ?_) (fun h1 => absurd (show nI j < nI 60 from nI_lt hjm (by omega)) h1)
    refine R_seg (φ := [mj_in (nI j) 60]) (pc' := 5) (L' := [.ref 35, .int v, .int ((nI j) + 1), .int 60]) (st' := []) (σ' := (mj_KS N, (mj_upI (mj_fil I 35 j v) 35 (nI j) v), mj_PP c d r)) 6 rfl ⟨mj_in_nI hjm (by omega), trivial⟩ ?_
    rw [nI_1 j, mj_fil_step (by omega)]
    exact ih (j + 1)  (by omega) (by omega)
theorem x_fill_35 (l : Launch) (b base : Nat) (D : va_G) (z : mj_K × (Int32 → Int32)) (N : Nat) (I : mj_I) (v : Int32) (c d r : Nat) : mj_Rn l b base D z mj_m_J7_fill_53178 0 [.ref 35, .int v, mj_mk, mj_mk] [] (mj_KS N, I, mj_PP c d r) (mj_E N none (mj_fil I 35 60 v) (mj_PP c d r)) := by
  rw [show (mj_KS N, I, mj_PP c d r) = (mj_KS N, mj_fil I 35 0 v, mj_PP c d r) by rw [mj_fil_0]]
  refine R_seg (φ := []) (pc' := 5) (L' := [.ref 35, .int v, .int 0, .int 60]) (st' := []) (σ' := (mj_KS N, mj_fil I 35 0 v, mj_PP c d r)) 5 rfl trivial ?_
  exact x_fill_l35 l b base D z N I v c d r 60 0 (by omega) (by omega)
set_option maxHeartbeats 4000000 in
theorem x_fill_l37 (l : Launch) (b base : Nat) (D : va_G) (z : mj_K × (Int32 → Int32)) (N : Nat) (I : mj_I) (v : Int32) (c d r : Nat) : ∀ (k j : Nat), k = 60 - j → j ≤ 60 → mj_Rn l b base D z mj_m_J7_fill_53178 5 [.ref 37, .int v, .int (nI j), .int 60] [] (mj_KS N, mj_fil I 37 j v, mj_PP c d r) (mj_E N none (mj_fil I 37 60 v) (mj_PP c d r)) := by
  intro k
  induction k with
  | zero =>
    intro j  hk hj
    refine R_seg (φ := []) (pc' := 7) (L' := [.ref 37, .int v, .int (nI j), .int 60]) (st' := [.int 60, .int (nI j)]) (σ' := (mj_KS N, mj_fil I 37 j v, mj_PP c d r)) 2 rfl trivial ?_
    refine R_br (q := (nI j : Int32) < 60) (t := 10) (f := 20) (rest := []) rfl (fun h1 => absurd h1 (show ¬ nI j < nI 60 from nI_nlt (by omega) (by omega))) (fun h1 => ?_)
    exact R_rv rfl rfl (mj_leaf rfl (by rw [show j = 60 by omega]))
  | succ k ih =>
    intro j  hk hj
    have hjm : j < 60 := by omega
    refine R_seg (φ := []) (pc' := 7) (L' := [.ref 37, .int v, .int (nI j), .int 60]) (st' := [.int 60, .int (nI j)]) (σ' := (mj_KS N, mj_fil I 37 j v, mj_PP c d r)) 2 rfl trivial ?_
    refine R_br (q := (nI j : Int32) < 60) (t := 10) (f := 20) (rest := []) rfl (fun h1 => ?_) (fun h1 => absurd (show nI j < nI 60 from nI_lt hjm (by omega)) h1)
    refine R_seg (φ := [mj_in (nI j) 60]) (pc' := 5) (L' := [.ref 37, .int v, .int ((nI j) + 1), .int 60]) (st' := []) (σ' := (mj_KS N, (mj_upI (mj_fil I 37 j v) 37 (nI j) v), mj_PP c d r)) 6 rfl ⟨mj_in_nI hjm (by omega), trivial⟩ ?_
    rw [nI_1 j, mj_fil_step (by omega)]
    exact ih (j + 1)  (by omega) (by omega)
theorem x_fill_37 (l : Launch) (b base : Nat) (D : va_G) (z : mj_K × (Int32 → Int32)) (N : Nat) (I : mj_I) (v : Int32) (c d r : Nat) : mj_Rn l b base D z mj_m_J7_fill_53178 0 [.ref 37, .int v, mj_mk, mj_mk] [] (mj_KS N, I, mj_PP c d r) (mj_E N none (mj_fil I 37 60 v) (mj_PP c d r)) := by
  rw [show (mj_KS N, I, mj_PP c d r) = (mj_KS N, mj_fil I 37 0 v, mj_PP c d r) by rw [mj_fil_0]]
  refine R_seg (φ := []) (pc' := 5) (L' := [.ref 37, .int v, .int 0, .int 60]) (st' := []) (σ' := (mj_KS N, mj_fil I 37 0 v, mj_PP c d r)) 5 rfl trivial ?_
  exact x_fill_l37 l b base D z N I v c d r 60 0 (by omega) (by omega)
set_option maxHeartbeats 4000000 in
theorem x_fill_l39 (l : Launch) (b base : Nat) (D : va_G) (z : mj_K × (Int32 → Int32)) (N : Nat) (I : mj_I) (v : Int32) (c d r : Nat) : ∀ (k j : Nat), k = 60 - j → j ≤ 60 → mj_Rn l b base D z mj_m_J7_fill_53178 5 [.ref 39, .int v, .int (nI j), .int 60] [] (mj_KS N, mj_fil I 39 j v, mj_PP c d r) (mj_E N none (mj_fil I 39 60 v) (mj_PP c d r)) := by
  intro k
  induction k with
  | zero =>
    intro j  hk hj
    refine R_seg (φ := []) (pc' := 7) (L' := [.ref 39, .int v, .int (nI j), .int 60]) (st' := [.int 60, .int (nI j)]) (σ' := (mj_KS N, mj_fil I 39 j v, mj_PP c d r)) 2 rfl trivial ?_
    refine R_br (q := (nI j : Int32) < 60) (t := 10) (f := 20) (rest := []) rfl (fun h1 => absurd h1 (show ¬ nI j < nI 60 from nI_nlt (by omega) (by omega))) (fun h1 => ?_)
    exact R_rv rfl rfl (mj_leaf rfl (by rw [show j = 60 by omega]))
  | succ k ih =>
    intro j  hk hj
    have hjm : j < 60 := by omega
    refine R_seg (φ := []) (pc' := 7) (L' := [.ref 39, .int v, .int (nI j), .int 60]) (st' := [.int 60, .int (nI j)]) (σ' := (mj_KS N, mj_fil I 39 j v, mj_PP c d r)) 2 rfl trivial ?_
    refine R_br (q := (nI j : Int32) < 60) (t := 10) (f := 20) (rest := []) rfl (fun h1 => ?_) (fun h1 => absurd (show nI j < nI 60 from nI_lt hjm (by omega)) h1)
    refine R_seg (φ := [mj_in (nI j) 60]) (pc' := 5) (L' := [.ref 39, .int v, .int ((nI j) + 1), .int 60]) (st' := []) (σ' := (mj_KS N, (mj_upI (mj_fil I 39 j v) 39 (nI j) v), mj_PP c d r)) 6 rfl ⟨mj_in_nI hjm (by omega), trivial⟩ ?_
    rw [nI_1 j, mj_fil_step (by omega)]
    exact ih (j + 1)  (by omega) (by omega)
theorem x_fill_39 (l : Launch) (b base : Nat) (D : va_G) (z : mj_K × (Int32 → Int32)) (N : Nat) (I : mj_I) (v : Int32) (c d r : Nat) : mj_Rn l b base D z mj_m_J7_fill_53178 0 [.ref 39, .int v, mj_mk, mj_mk] [] (mj_KS N, I, mj_PP c d r) (mj_E N none (mj_fil I 39 60 v) (mj_PP c d r)) := by
  rw [show (mj_KS N, I, mj_PP c d r) = (mj_KS N, mj_fil I 39 0 v, mj_PP c d r) by rw [mj_fil_0]]
  refine R_seg (φ := []) (pc' := 5) (L' := [.ref 39, .int v, .int 0, .int 60]) (st' := []) (σ' := (mj_KS N, mj_fil I 39 0 v, mj_PP c d r)) 5 rfl trivial ?_
  exact x_fill_l39 l b base D z N I v c d r 60 0 (by omega) (by omega)
set_option maxHeartbeats 4000000 in
theorem x_fill_l41 (l : Launch) (b base : Nat) (D : va_G) (z : mj_K × (Int32 → Int32)) (N : Nat) (I : mj_I) (v : Int32) (c d r : Nat) : ∀ (k j : Nat), k = 60 - j → j ≤ 60 → mj_Rn l b base D z mj_m_J7_fill_53178 5 [.ref 41, .int v, .int (nI j), .int 60] [] (mj_KS N, mj_fil I 41 j v, mj_PP c d r) (mj_E N none (mj_fil I 41 60 v) (mj_PP c d r)) := by
  intro k
  induction k with
  | zero =>
    intro j  hk hj
    refine R_seg (φ := []) (pc' := 7) (L' := [.ref 41, .int v, .int (nI j), .int 60]) (st' := [.int 60, .int (nI j)]) (σ' := (mj_KS N, mj_fil I 41 j v, mj_PP c d r)) 2 rfl trivial ?_
    refine R_br (q := (nI j : Int32) < 60) (t := 10) (f := 20) (rest := []) rfl (fun h1 => absurd h1 (show ¬ nI j < nI 60 from nI_nlt (by omega) (by omega))) (fun h1 => ?_)
    exact R_rv rfl rfl (mj_leaf rfl (by rw [show j = 60 by omega]))
  | succ k ih =>
    intro j  hk hj
    have hjm : j < 60 := by omega
    refine R_seg (φ := []) (pc' := 7) (L' := [.ref 41, .int v, .int (nI j), .int 60]) (st' := [.int 60, .int (nI j)]) (σ' := (mj_KS N, mj_fil I 41 j v, mj_PP c d r)) 2 rfl trivial ?_
    refine R_br (q := (nI j : Int32) < 60) (t := 10) (f := 20) (rest := []) rfl (fun h1 => ?_) (fun h1 => absurd (show nI j < nI 60 from nI_lt hjm (by omega)) h1)
    refine R_seg (φ := [mj_in (nI j) 60]) (pc' := 5) (L' := [.ref 41, .int v, .int ((nI j) + 1), .int 60]) (st' := []) (σ' := (mj_KS N, (mj_upI (mj_fil I 41 j v) 41 (nI j) v), mj_PP c d r)) 6 rfl ⟨mj_in_nI hjm (by omega), trivial⟩ ?_
    rw [nI_1 j, mj_fil_step (by omega)]
    exact ih (j + 1)  (by omega) (by omega)
theorem x_fill_41 (l : Launch) (b base : Nat) (D : va_G) (z : mj_K × (Int32 → Int32)) (N : Nat) (I : mj_I) (v : Int32) (c d r : Nat) : mj_Rn l b base D z mj_m_J7_fill_53178 0 [.ref 41, .int v, mj_mk, mj_mk] [] (mj_KS N, I, mj_PP c d r) (mj_E N none (mj_fil I 41 60 v) (mj_PP c d r)) := by
  rw [show (mj_KS N, I, mj_PP c d r) = (mj_KS N, mj_fil I 41 0 v, mj_PP c d r) by rw [mj_fil_0]]
  refine R_seg (φ := []) (pc' := 5) (L' := [.ref 41, .int v, .int 0, .int 60]) (st' := []) (σ' := (mj_KS N, mj_fil I 41 0 v, mj_PP c d r)) 5 rfl trivial ?_
  exact x_fill_l41 l b base D z N I v c d r 60 0 (by omega) (by omega)
set_option maxHeartbeats 4000000 in
theorem x_fill_l23 (l : Launch) (b base : Nat) (D : va_G) (z : mj_K × (Int32 → Int32)) (N : Nat) (I : mj_I) (v : Int32) (c d r : Nat) : ∀ (k j : Nat), k = 3072 - j → j ≤ 3072 → mj_Rn l b base D z mj_m_J7_fill_53178 5 [.ref 23, .int v, .int (nI j), .int 3072] [] (mj_KS N, mj_fil I 23 j v, mj_PP c d r) (mj_E N none (mj_fil I 23 3072 v) (mj_PP c d r)) := by
  intro k
  induction k with
  | zero =>
    intro j  hk hj
    refine R_seg (φ := []) (pc' := 7) (L' := [.ref 23, .int v, .int (nI j), .int 3072]) (st' := [.int 3072, .int (nI j)]) (σ' := (mj_KS N, mj_fil I 23 j v, mj_PP c d r)) 2 rfl trivial ?_
    refine R_br (q := (nI j : Int32) < 3072) (t := 10) (f := 20) (rest := []) rfl (fun h1 => absurd h1 (show ¬ nI j < nI 3072 from nI_nlt (by omega) (by omega))) (fun h1 => ?_)
    exact R_rv rfl rfl (mj_leaf rfl (by rw [show j = 3072 by omega]))
  | succ k ih =>
    intro j  hk hj
    have hjm : j < 3072 := by omega
    refine R_seg (φ := []) (pc' := 7) (L' := [.ref 23, .int v, .int (nI j), .int 3072]) (st' := [.int 3072, .int (nI j)]) (σ' := (mj_KS N, mj_fil I 23 j v, mj_PP c d r)) 2 rfl trivial ?_
    refine R_br (q := (nI j : Int32) < 3072) (t := 10) (f := 20) (rest := []) rfl (fun h1 => ?_) (fun h1 => absurd (show nI j < nI 3072 from nI_lt hjm (by omega)) h1)
    refine R_seg (φ := [mj_in (nI j) 3072]) (pc' := 5) (L' := [.ref 23, .int v, .int ((nI j) + 1), .int 3072]) (st' := []) (σ' := (mj_KS N, (mj_upI (mj_fil I 23 j v) 23 (nI j) v), mj_PP c d r)) 6 rfl ⟨mj_in_nI hjm (by omega), trivial⟩ ?_
    rw [nI_1 j, mj_fil_step (by omega)]
    exact ih (j + 1)  (by omega) (by omega)
theorem x_fill_23 (l : Launch) (b base : Nat) (D : va_G) (z : mj_K × (Int32 → Int32)) (N : Nat) (I : mj_I) (v : Int32) (c d r : Nat) : mj_Rn l b base D z mj_m_J7_fill_53178 0 [.ref 23, .int v, mj_mk, mj_mk] [] (mj_KS N, I, mj_PP c d r) (mj_E N none (mj_fil I 23 3072 v) (mj_PP c d r)) := by
  rw [show (mj_KS N, I, mj_PP c d r) = (mj_KS N, mj_fil I 23 0 v, mj_PP c d r) by rw [mj_fil_0]]
  refine R_seg (φ := []) (pc' := 5) (L' := [.ref 23, .int v, .int 0, .int 3072]) (st' := []) (σ' := (mj_KS N, mj_fil I 23 0 v, mj_PP c d r)) 5 rfl trivial ?_
  exact x_fill_l23 l b base D z N I v c d r 3072 0 (by omega) (by omega)
set_option maxHeartbeats 4000000 in
theorem x_fill_l26 (l : Launch) (b base : Nat) (D : va_G) (z : mj_K × (Int32 → Int32)) (N : Nat) (I : mj_I) (v : Int32) (c d r : Nat) : ∀ (k j : Nat), k = 48 - j → j ≤ 48 → mj_Rn l b base D z mj_m_J7_fill_53178 5 [.ref 26, .int v, .int (nI j), .int 48] [] (mj_KS N, mj_fil I 26 j v, mj_PP c d r) (mj_E N none (mj_fil I 26 48 v) (mj_PP c d r)) := by
  intro k
  induction k with
  | zero =>
    intro j  hk hj
    refine R_seg (φ := []) (pc' := 7) (L' := [.ref 26, .int v, .int (nI j), .int 48]) (st' := [.int 48, .int (nI j)]) (σ' := (mj_KS N, mj_fil I 26 j v, mj_PP c d r)) 2 rfl trivial ?_
    refine R_br (q := (nI j : Int32) < 48) (t := 10) (f := 20) (rest := []) rfl (fun h1 => absurd h1 (show ¬ nI j < nI 48 from nI_nlt (by omega) (by omega))) (fun h1 => ?_)
    exact R_rv rfl rfl (mj_leaf rfl (by rw [show j = 48 by omega]))
  | succ k ih =>
    intro j  hk hj
    have hjm : j < 48 := by omega
    refine R_seg (φ := []) (pc' := 7) (L' := [.ref 26, .int v, .int (nI j), .int 48]) (st' := [.int 48, .int (nI j)]) (σ' := (mj_KS N, mj_fil I 26 j v, mj_PP c d r)) 2 rfl trivial ?_
    refine R_br (q := (nI j : Int32) < 48) (t := 10) (f := 20) (rest := []) rfl (fun h1 => ?_) (fun h1 => absurd (show nI j < nI 48 from nI_lt hjm (by omega)) h1)
    refine R_seg (φ := [mj_in (nI j) 48]) (pc' := 5) (L' := [.ref 26, .int v, .int ((nI j) + 1), .int 48]) (st' := []) (σ' := (mj_KS N, (mj_upI (mj_fil I 26 j v) 26 (nI j) v), mj_PP c d r)) 6 rfl ⟨mj_in_nI hjm (by omega), trivial⟩ ?_
    rw [nI_1 j, mj_fil_step (by omega)]
    exact ih (j + 1)  (by omega) (by omega)
theorem x_fill_26 (l : Launch) (b base : Nat) (D : va_G) (z : mj_K × (Int32 → Int32)) (N : Nat) (I : mj_I) (v : Int32) (c d r : Nat) : mj_Rn l b base D z mj_m_J7_fill_53178 0 [.ref 26, .int v, mj_mk, mj_mk] [] (mj_KS N, I, mj_PP c d r) (mj_E N none (mj_fil I 26 48 v) (mj_PP c d r)) := by
  rw [show (mj_KS N, I, mj_PP c d r) = (mj_KS N, mj_fil I 26 0 v, mj_PP c d r) by rw [mj_fil_0]]
  refine R_seg (φ := []) (pc' := 5) (L' := [.ref 26, .int v, .int 0, .int 48]) (st' := []) (σ' := (mj_KS N, mj_fil I 26 0 v, mj_PP c d r)) 5 rfl trivial ?_
  exact x_fill_l26 l b base D z N I v c d r 48 0 (by omega) (by omega)
set_option maxHeartbeats 4000000 in
theorem x_fill_l27 (l : Launch) (b base : Nat) (D : va_G) (z : mj_K × (Int32 → Int32)) (N : Nat) (I : mj_I) (v : Int32) (c d r : Nat) : ∀ (k j : Nat), k = 48 - j → j ≤ 48 → mj_Rn l b base D z mj_m_J7_fill_53178 5 [.ref 27, .int v, .int (nI j), .int 48] [] (mj_KS N, mj_fil I 27 j v, mj_PP c d r) (mj_E N none (mj_fil I 27 48 v) (mj_PP c d r)) := by
  intro k
  induction k with
  | zero =>
    intro j  hk hj
    refine R_seg (φ := []) (pc' := 7) (L' := [.ref 27, .int v, .int (nI j), .int 48]) (st' := [.int 48, .int (nI j)]) (σ' := (mj_KS N, mj_fil I 27 j v, mj_PP c d r)) 2 rfl trivial ?_
    refine R_br (q := (nI j : Int32) < 48) (t := 10) (f := 20) (rest := []) rfl (fun h1 => absurd h1 (show ¬ nI j < nI 48 from nI_nlt (by omega) (by omega))) (fun h1 => ?_)
    exact R_rv rfl rfl (mj_leaf rfl (by rw [show j = 48 by omega]))
  | succ k ih =>
    intro j  hk hj
    have hjm : j < 48 := by omega
    refine R_seg (φ := []) (pc' := 7) (L' := [.ref 27, .int v, .int (nI j), .int 48]) (st' := [.int 48, .int (nI j)]) (σ' := (mj_KS N, mj_fil I 27 j v, mj_PP c d r)) 2 rfl trivial ?_
    refine R_br (q := (nI j : Int32) < 48) (t := 10) (f := 20) (rest := []) rfl (fun h1 => ?_) (fun h1 => absurd (show nI j < nI 48 from nI_lt hjm (by omega)) h1)
    refine R_seg (φ := [mj_in (nI j) 48]) (pc' := 5) (L' := [.ref 27, .int v, .int ((nI j) + 1), .int 48]) (st' := []) (σ' := (mj_KS N, (mj_upI (mj_fil I 27 j v) 27 (nI j) v), mj_PP c d r)) 6 rfl ⟨mj_in_nI hjm (by omega), trivial⟩ ?_
    rw [nI_1 j, mj_fil_step (by omega)]
    exact ih (j + 1)  (by omega) (by omega)
theorem x_fill_27 (l : Launch) (b base : Nat) (D : va_G) (z : mj_K × (Int32 → Int32)) (N : Nat) (I : mj_I) (v : Int32) (c d r : Nat) : mj_Rn l b base D z mj_m_J7_fill_53178 0 [.ref 27, .int v, mj_mk, mj_mk] [] (mj_KS N, I, mj_PP c d r) (mj_E N none (mj_fil I 27 48 v) (mj_PP c d r)) := by
  rw [show (mj_KS N, I, mj_PP c d r) = (mj_KS N, mj_fil I 27 0 v, mj_PP c d r) by rw [mj_fil_0]]
  refine R_seg (φ := []) (pc' := 5) (L' := [.ref 27, .int v, .int 0, .int 48]) (st' := []) (σ' := (mj_KS N, mj_fil I 27 0 v, mj_PP c d r)) 5 rfl trivial ?_
  exact x_fill_l27 l b base D z N I v c d r 48 0 (by omega) (by omega)
set_option maxHeartbeats 4000000 in
theorem x_fill_l31 (l : Launch) (b base : Nat) (D : va_G) (z : mj_K × (Int32 → Int32)) (N : Nat) (I : mj_I) (v : Int32) (c d r : Nat) : ∀ (k j : Nat), k = 6 - j → j ≤ 6 → mj_Rn l b base D z mj_m_J7_fill_53178 5 [.ref 31, .int v, .int (nI j), .int 6] [] (mj_KS N, mj_fil I 31 j v, mj_PP c d r) (mj_E N none (mj_fil I 31 6 v) (mj_PP c d r)) := by
  intro k
  induction k with
  | zero =>
    intro j  hk hj
    refine R_seg (φ := []) (pc' := 7) (L' := [.ref 31, .int v, .int (nI j), .int 6]) (st' := [.int 6, .int (nI j)]) (σ' := (mj_KS N, mj_fil I 31 j v, mj_PP c d r)) 2 rfl trivial ?_
    refine R_br (q := (nI j : Int32) < 6) (t := 10) (f := 20) (rest := []) rfl (fun h1 => absurd h1 (show ¬ nI j < nI 6 from nI_nlt (by omega) (by omega))) (fun h1 => ?_)
    exact R_rv rfl rfl (mj_leaf rfl (by rw [show j = 6 by omega]))
  | succ k ih =>
    intro j  hk hj
    have hjm : j < 6 := by omega
    refine R_seg (φ := []) (pc' := 7) (L' := [.ref 31, .int v, .int (nI j), .int 6]) (st' := [.int 6, .int (nI j)]) (σ' := (mj_KS N, mj_fil I 31 j v, mj_PP c d r)) 2 rfl trivial ?_
    refine R_br (q := (nI j : Int32) < 6) (t := 10) (f := 20) (rest := []) rfl (fun h1 => ?_) (fun h1 => absurd (show nI j < nI 6 from nI_lt hjm (by omega)) h1)
    refine R_seg (φ := [mj_in (nI j) 6]) (pc' := 5) (L' := [.ref 31, .int v, .int ((nI j) + 1), .int 6]) (st' := []) (σ' := (mj_KS N, (mj_upI (mj_fil I 31 j v) 31 (nI j) v), mj_PP c d r)) 6 rfl ⟨mj_in_nI hjm (by omega), trivial⟩ ?_
    rw [nI_1 j, mj_fil_step (by omega)]
    exact ih (j + 1)  (by omega) (by omega)
theorem x_fill_31 (l : Launch) (b base : Nat) (D : va_G) (z : mj_K × (Int32 → Int32)) (N : Nat) (I : mj_I) (v : Int32) (c d r : Nat) : mj_Rn l b base D z mj_m_J7_fill_53178 0 [.ref 31, .int v, mj_mk, mj_mk] [] (mj_KS N, I, mj_PP c d r) (mj_E N none (mj_fil I 31 6 v) (mj_PP c d r)) := by
  rw [show (mj_KS N, I, mj_PP c d r) = (mj_KS N, mj_fil I 31 0 v, mj_PP c d r) by rw [mj_fil_0]]
  refine R_seg (φ := []) (pc' := 5) (L' := [.ref 31, .int v, .int 0, .int 6]) (st' := []) (σ' := (mj_KS N, mj_fil I 31 0 v, mj_PP c d r)) 5 rfl trivial ?_
  exact x_fill_l31 l b base D z N I v c d r 6 0 (by omega) (by omega)
def sp_hc (len i n : Int32) : Bool := if i < 0 then false else if len - n < i then false else true
def sp_fot (has lane len : Int32) (asl i n : Int32) : Int32 := if has = 0 then 1 else if lane = asl then (if n < 0 then 4 else if sp_hc len i n then 0 else 3) else 2
def sp_cut (lane v : Int32) : Int32 := if lane = 0 then v.toInt8.toInt32 else if lane = 1 then v.toInt16.toInt32 else v
set_option maxHeartbeats 4000000 in
theorem x_hasCells (l : Launch) (b base : Nat) (D : va_G) (z : mj_K × (Int32 → Int32)) (N : Nat) (sh : Nat) (hsh : sh = 34 ∨ sh = 36 ∨ sh = 38 ∨ sh = 40) (i n : Int32) (I : mj_I) (c d r : Nat) : mj_Rn l b base D z mj_m_X4_hasCells 0 [.ref sh, .int i, .int n] [] (mj_KS N, I, mj_PP c d r) (mj_E N (some (.int (bI (sp_hc (I sh 2) i n)))) I (mj_PP c d r)) := by
  rcases hsh with rfl | rfl | rfl | rfl
  · show mj_Rn l b base D z mj_m_X4_hasCells 0 [.ref 34, .int i, .int n] [] (mj_KS N, I, mj_PP c d r) (mj_E N (some (.int (bI (sp_hc (I 34 2) i n)))) I (mj_PP c d r))
    refine R_seg (φ := []) (pc' := 1) (L' := [.ref 34, .int i, .int n]) (st' := [.int i]) (σ' := (mj_KS N, I, mj_PP c d r)) 1 rfl trivial ?_
    refine R_br (q := (i : Int32) < 0) (t := 18) (f := 4) (rest := []) rfl (fun h1 => ?_) (fun h1 => ?_)
    · skip
      refine R_seg (φ := []) (pc' := 19) (L' := [.ref 34, .int i, .int n]) (st' := [.int 0]) (σ' := (mj_KS N, I, mj_PP c d r)) 1 rfl trivial ?_
      exact R_rb rfl rfl (Or.inl rfl) (mj_leaf (by simp only [sp_hc, if_pos h1, Bool.false_eq_true, ↓reduceIte, bI, cond_true, cond_false]) rfl)
    · skip
      refine R_seg (φ := []) (pc' := 11) (L' := [.ref 34, .int i, .int n]) (st' := [.int ((I 34 2) - n), .int i]) (σ' := (mj_KS N, I, mj_PP c d r)) 5 rfl trivial ?_
      refine R_br (q := ((I 34 2) - n : Int32) < i) (t := 18) (f := 14) (rest := []) rfl (fun h2 => ?_) (fun h2 => ?_)
      · skip
        refine R_seg (φ := []) (pc' := 19) (L' := [.ref 34, .int i, .int n]) (st' := [.int 0]) (σ' := (mj_KS N, I, mj_PP c d r)) 1 rfl trivial ?_
        exact R_rb rfl rfl (Or.inl rfl) (mj_leaf (by simp only [sp_hc, if_neg h1, if_pos h2, Bool.false_eq_true, ↓reduceIte, bI, cond_true, cond_false]) rfl)
      · skip
        refine R_seg (φ := []) (pc' := 19) (L' := [.ref 34, .int i, .int n]) (st' := [.int 1]) (σ' := (mj_KS N, I, mj_PP c d r)) 2 rfl trivial ?_
        exact R_rb rfl rfl (Or.inr rfl) (mj_leaf (by simp only [sp_hc, if_neg h1, if_neg h2, Bool.false_eq_true, ↓reduceIte, bI, cond_true, cond_false]) rfl)
  · show mj_Rn l b base D z mj_m_X4_hasCells 0 [.ref 36, .int i, .int n] [] (mj_KS N, I, mj_PP c d r) (mj_E N (some (.int (bI (sp_hc (I 36 2) i n)))) I (mj_PP c d r))
    refine R_seg (φ := []) (pc' := 1) (L' := [.ref 36, .int i, .int n]) (st' := [.int i]) (σ' := (mj_KS N, I, mj_PP c d r)) 1 rfl trivial ?_
    refine R_br (q := (i : Int32) < 0) (t := 18) (f := 4) (rest := []) rfl (fun h1 => ?_) (fun h1 => ?_)
    · skip
      refine R_seg (φ := []) (pc' := 19) (L' := [.ref 36, .int i, .int n]) (st' := [.int 0]) (σ' := (mj_KS N, I, mj_PP c d r)) 1 rfl trivial ?_
      exact R_rb rfl rfl (Or.inl rfl) (mj_leaf (by simp only [sp_hc, if_pos h1, Bool.false_eq_true, ↓reduceIte, bI, cond_true, cond_false]) rfl)
    · skip
      refine R_seg (φ := []) (pc' := 11) (L' := [.ref 36, .int i, .int n]) (st' := [.int ((I 36 2) - n), .int i]) (σ' := (mj_KS N, I, mj_PP c d r)) 5 rfl trivial ?_
      refine R_br (q := ((I 36 2) - n : Int32) < i) (t := 18) (f := 14) (rest := []) rfl (fun h2 => ?_) (fun h2 => ?_)
      · skip
        refine R_seg (φ := []) (pc' := 19) (L' := [.ref 36, .int i, .int n]) (st' := [.int 0]) (σ' := (mj_KS N, I, mj_PP c d r)) 1 rfl trivial ?_
        exact R_rb rfl rfl (Or.inl rfl) (mj_leaf (by simp only [sp_hc, if_neg h1, if_pos h2, Bool.false_eq_true, ↓reduceIte, bI, cond_true, cond_false]) rfl)
      · skip
        refine R_seg (φ := []) (pc' := 19) (L' := [.ref 36, .int i, .int n]) (st' := [.int 1]) (σ' := (mj_KS N, I, mj_PP c d r)) 2 rfl trivial ?_
        exact R_rb rfl rfl (Or.inr rfl) (mj_leaf (by simp only [sp_hc, if_neg h1, if_neg h2, Bool.false_eq_true, ↓reduceIte, bI, cond_true, cond_false]) rfl)
  · show mj_Rn l b base D z mj_m_X4_hasCells 0 [.ref 38, .int i, .int n] [] (mj_KS N, I, mj_PP c d r) (mj_E N (some (.int (bI (sp_hc (I 38 2) i n)))) I (mj_PP c d r))
    refine R_seg (φ := []) (pc' := 1) (L' := [.ref 38, .int i, .int n]) (st' := [.int i]) (σ' := (mj_KS N, I, mj_PP c d r)) 1 rfl trivial ?_
    refine R_br (q := (i : Int32) < 0) (t := 18) (f := 4) (rest := []) rfl (fun h1 => ?_) (fun h1 => ?_)
    · skip
      refine R_seg (φ := []) (pc' := 19) (L' := [.ref 38, .int i, .int n]) (st' := [.int 0]) (σ' := (mj_KS N, I, mj_PP c d r)) 1 rfl trivial ?_
      exact R_rb rfl rfl (Or.inl rfl) (mj_leaf (by simp only [sp_hc, if_pos h1, Bool.false_eq_true, ↓reduceIte, bI, cond_true, cond_false]) rfl)
    · skip
      refine R_seg (φ := []) (pc' := 11) (L' := [.ref 38, .int i, .int n]) (st' := [.int ((I 38 2) - n), .int i]) (σ' := (mj_KS N, I, mj_PP c d r)) 5 rfl trivial ?_
      refine R_br (q := ((I 38 2) - n : Int32) < i) (t := 18) (f := 14) (rest := []) rfl (fun h2 => ?_) (fun h2 => ?_)
      · skip
        refine R_seg (φ := []) (pc' := 19) (L' := [.ref 38, .int i, .int n]) (st' := [.int 0]) (σ' := (mj_KS N, I, mj_PP c d r)) 1 rfl trivial ?_
        exact R_rb rfl rfl (Or.inl rfl) (mj_leaf (by simp only [sp_hc, if_neg h1, if_pos h2, Bool.false_eq_true, ↓reduceIte, bI, cond_true, cond_false]) rfl)
      · skip
        refine R_seg (φ := []) (pc' := 19) (L' := [.ref 38, .int i, .int n]) (st' := [.int 1]) (σ' := (mj_KS N, I, mj_PP c d r)) 2 rfl trivial ?_
        exact R_rb rfl rfl (Or.inr rfl) (mj_leaf (by simp only [sp_hc, if_neg h1, if_neg h2, Bool.false_eq_true, ↓reduceIte, bI, cond_true, cond_false]) rfl)
  · show mj_Rn l b base D z mj_m_X4_hasCells 0 [.ref 40, .int i, .int n] [] (mj_KS N, I, mj_PP c d r) (mj_E N (some (.int (bI (sp_hc (I 40 2) i n)))) I (mj_PP c d r))
    refine R_seg (φ := []) (pc' := 1) (L' := [.ref 40, .int i, .int n]) (st' := [.int i]) (σ' := (mj_KS N, I, mj_PP c d r)) 1 rfl trivial ?_
    refine R_br (q := (i : Int32) < 0) (t := 18) (f := 4) (rest := []) rfl (fun h1 => ?_) (fun h1 => ?_)
    · skip
      refine R_seg (φ := []) (pc' := 19) (L' := [.ref 40, .int i, .int n]) (st' := [.int 0]) (σ' := (mj_KS N, I, mj_PP c d r)) 1 rfl trivial ?_
      exact R_rb rfl rfl (Or.inl rfl) (mj_leaf (by simp only [sp_hc, if_pos h1, Bool.false_eq_true, ↓reduceIte, bI, cond_true, cond_false]) rfl)
    · skip
      refine R_seg (φ := []) (pc' := 11) (L' := [.ref 40, .int i, .int n]) (st' := [.int ((I 40 2) - n), .int i]) (σ' := (mj_KS N, I, mj_PP c d r)) 5 rfl trivial ?_
      refine R_br (q := ((I 40 2) - n : Int32) < i) (t := 18) (f := 14) (rest := []) rfl (fun h2 => ?_) (fun h2 => ?_)
      · skip
        refine R_seg (φ := []) (pc' := 19) (L' := [.ref 40, .int i, .int n]) (st' := [.int 0]) (σ' := (mj_KS N, I, mj_PP c d r)) 1 rfl trivial ?_
        exact R_rb rfl rfl (Or.inl rfl) (mj_leaf (by simp only [sp_hc, if_neg h1, if_pos h2, Bool.false_eq_true, ↓reduceIte, bI, cond_true, cond_false]) rfl)
      · skip
        refine R_seg (φ := []) (pc' := 19) (L' := [.ref 40, .int i, .int n]) (st' := [.int 1]) (σ' := (mj_KS N, I, mj_PP c d r)) 2 rfl trivial ?_
        exact R_rb rfl rfl (Or.inr rfl) (mj_leaf (by simp only [sp_hc, if_neg h1, if_neg h2, Bool.false_eq_true, ↓reduceIte, bI, cond_true, cond_false]) rfl)
set_option maxHeartbeats 4000000 in
theorem x_fot (l : Launch) (b base : Nat) (D : va_G) (z : mj_K × (Int32 → Int32)) (N : Nat) (sh : Nat) (hsh : sh = 34 ∨ sh = 36 ∨ sh = 38 ∨ sh = 40) (a i n : Int32) (I : mj_I) (c d r : Nat) : mj_Rn l b base D z mj_m_X4_faultOfTaking 0 [.ref sh, .int a, .int i, .int n] [] (mj_KS N, I, mj_PP c d r) (mj_E N (some (.int (sp_fot (I sh 0) (I sh 1) (I sh 2) a i n))) I (mj_PP c d r)) := by
  rcases hsh with rfl | rfl | rfl | rfl
  · show mj_Rn l b base D z mj_m_X4_faultOfTaking 0 [.ref 34, .int a, .int i, .int n] [] (mj_KS N, I, mj_PP c d r) (mj_E N (some (.int (sp_fot (I 34 0) (I 34 1) (I 34 2) a i n))) I (mj_PP c d r))
    refine R_seg (φ := []) (pc' := 4) (L' := [.ref 34, .int a, .int i, .int n]) (st' := [.int (I 34 0)]) (σ' := (mj_KS N, I, mj_PP c d r)) 2 rfl trivial ?_
    refine R_br (q := (I 34 0 : Int32) = 0) (t := 17) (f := 7) (rest := []) rfl (fun h1 => ?_) (fun h1 => ?_)
    · skip
      refine R_seg (φ := []) (pc' := 21) (L' := [.ref 34, .int a, .int i, .int n]) (st' := [.int (I 34 0)]) (σ' := (mj_KS N, I, mj_PP c d r)) 2 rfl trivial ?_
      refine R_br (q := (I 34 0 : Int32) = 0) (t := 24) (f := 26) (rest := []) rfl (fun h2 => ?_) (fun h2 => absurd (h1) h2)
      refine R_seg (φ := []) (pc' := 25) (L' := [.ref 34, .int a, .int i, .int n]) (st' := [.int 1]) (σ' := (mj_KS N, I, mj_PP c d r)) 1 rfl trivial ?_
      exact R_ri rfl rfl (mj_leaf (by simp only [sp_fot, if_pos h1, Bool.false_eq_true, ↓reduceIte, bI, cond_true, cond_false]) rfl)
    · skip
      refine R_seg (φ := []) (pc' := 12) (L' := [.ref 34, .int a, .int i, .int n]) (st' := [.int a, .int (I 34 1)]) (σ' := (mj_KS N, I, mj_PP c d r)) 3 rfl trivial ?_
      refine R_br (q := (I 34 1 : Int32) = a) (t := 17) (f := 15) (rest := []) rfl (fun h3 => ?_) (fun h3 => ?_)
      · skip
        refine R_seg (φ := []) (pc' := 21) (L' := [.ref 34, .int a, .int i, .int n]) (st' := [.int (I 34 0)]) (σ' := (mj_KS N, I, mj_PP c d r)) 2 rfl trivial ?_
        refine R_br (q := (I 34 0 : Int32) = 0) (t := 24) (f := 26) (rest := []) rfl (fun h4 => absurd h4 (h1)) (fun h4 => ?_)
        refine R_seg (φ := []) (pc' := 27) (L' := [.ref 34, .int a, .int i, .int n]) (st' := [.int n]) (σ' := (mj_KS N, I, mj_PP c d r)) 1 rfl trivial ?_
        refine R_br (q := (n : Int32) < 0) (t := 30) (f := 32) (rest := []) rfl (fun h5 => ?_) (fun h5 => ?_)
        · skip
          refine R_seg (φ := []) (pc' := 31) (L' := [.ref 34, .int a, .int i, .int n]) (st' := [.int 4]) (σ' := (mj_KS N, I, mj_PP c d r)) 1 rfl trivial ?_
          exact R_ri rfl rfl (mj_leaf (by simp only [sp_fot, if_neg h1, if_pos h3, if_pos h5, Bool.false_eq_true, ↓reduceIte, bI, cond_true, cond_false]) rfl)
        · skip
          refine R_seg (φ := []) (pc' := 35) (L' := [.ref 34, .int a, .int i, .int n]) (st' := [.int n, .int i, .ref 34]) (σ' := (mj_KS N, I, mj_PP c d r)) 3 rfl trivial ?_
          refine R_ce (idx := 32) (mid := 36) (kind := 0) (N := N) (M' := mj_m_X4_hasCells) (As := [.ref 34, .int i, .int n]) (rest := []) (I := I) (P := mj_PP c d r) (I' := I) (P' := mj_PP c d r) (v := some (.int (bI (sp_hc (I 34 2) i n)))) rfl rfl rfl mj_mc36 mj_dc36 rfl rfl rfl rfl rfl rfl (x_hasCells l b base D z N 34 (by decide) i n I c d r) ?_
          refine R_seg (φ := []) (pc' := 38) (L' := [.ref 34, .int a, .int i, .int n]) (st' := [.int (bI (sp_hc (I 34 2) i n))]) (σ' := (mj_KS N, I, mj_PP c d r)) 0 rfl trivial ?_
          refine R_br (q := (bI (sp_hc (I 34 2) i n) : Int32) = 0) (t := 45) (f := 41) (rest := []) rfl (fun h6 => ?_) (fun h6 => ?_)
          · skip
            replace h6 := bI_0.mp h6
            refine R_seg (φ := []) (pc' := 46) (L' := [.ref 34, .int a, .int i, .int n]) (st' := [.int 3]) (σ' := (mj_KS N, I, mj_PP c d r)) 1 rfl trivial ?_
            exact R_ri rfl rfl (mj_leaf (by simp only [sp_fot, if_neg h1, if_pos h3, if_neg h5, h6, Bool.false_eq_true, ↓reduceIte, bI, cond_true, cond_false]) rfl)
          · skip
            replace h6 := bI_1 h6
            refine R_seg (φ := []) (pc' := 46) (L' := [.ref 34, .int a, .int i, .int n]) (st' := [.int 0]) (σ' := (mj_KS N, I, mj_PP c d r)) 2 rfl trivial ?_
            exact R_ri rfl rfl (mj_leaf (by simp only [sp_fot, if_neg h1, if_pos h3, if_neg h5, h6, Bool.false_eq_true, ↓reduceIte, bI, cond_true, cond_false]) rfl)
      · skip
        refine R_seg (φ := []) (pc' := 16) (L' := [.ref 34, .int a, .int i, .int n]) (st' := [.int 2]) (σ' := (mj_KS N, I, mj_PP c d r)) 1 rfl trivial ?_
        exact R_ri rfl rfl (mj_leaf (by simp only [sp_fot, if_neg h1, if_neg h3, Bool.false_eq_true, ↓reduceIte, bI, cond_true, cond_false]) rfl)
  · show mj_Rn l b base D z mj_m_X4_faultOfTaking 0 [.ref 36, .int a, .int i, .int n] [] (mj_KS N, I, mj_PP c d r) (mj_E N (some (.int (sp_fot (I 36 0) (I 36 1) (I 36 2) a i n))) I (mj_PP c d r))
    refine R_seg (φ := []) (pc' := 4) (L' := [.ref 36, .int a, .int i, .int n]) (st' := [.int (I 36 0)]) (σ' := (mj_KS N, I, mj_PP c d r)) 2 rfl trivial ?_
    refine R_br (q := (I 36 0 : Int32) = 0) (t := 17) (f := 7) (rest := []) rfl (fun h1 => ?_) (fun h1 => ?_)
    · skip
      refine R_seg (φ := []) (pc' := 21) (L' := [.ref 36, .int a, .int i, .int n]) (st' := [.int (I 36 0)]) (σ' := (mj_KS N, I, mj_PP c d r)) 2 rfl trivial ?_
      refine R_br (q := (I 36 0 : Int32) = 0) (t := 24) (f := 26) (rest := []) rfl (fun h2 => ?_) (fun h2 => absurd (h1) h2)
      refine R_seg (φ := []) (pc' := 25) (L' := [.ref 36, .int a, .int i, .int n]) (st' := [.int 1]) (σ' := (mj_KS N, I, mj_PP c d r)) 1 rfl trivial ?_
      exact R_ri rfl rfl (mj_leaf (by simp only [sp_fot, if_pos h1, Bool.false_eq_true, ↓reduceIte, bI, cond_true, cond_false]) rfl)
    · skip
      refine R_seg (φ := []) (pc' := 12) (L' := [.ref 36, .int a, .int i, .int n]) (st' := [.int a, .int (I 36 1)]) (σ' := (mj_KS N, I, mj_PP c d r)) 3 rfl trivial ?_
      refine R_br (q := (I 36 1 : Int32) = a) (t := 17) (f := 15) (rest := []) rfl (fun h3 => ?_) (fun h3 => ?_)
      · skip
        refine R_seg (φ := []) (pc' := 21) (L' := [.ref 36, .int a, .int i, .int n]) (st' := [.int (I 36 0)]) (σ' := (mj_KS N, I, mj_PP c d r)) 2 rfl trivial ?_
        refine R_br (q := (I 36 0 : Int32) = 0) (t := 24) (f := 26) (rest := []) rfl (fun h4 => absurd h4 (h1)) (fun h4 => ?_)
        refine R_seg (φ := []) (pc' := 27) (L' := [.ref 36, .int a, .int i, .int n]) (st' := [.int n]) (σ' := (mj_KS N, I, mj_PP c d r)) 1 rfl trivial ?_
        refine R_br (q := (n : Int32) < 0) (t := 30) (f := 32) (rest := []) rfl (fun h5 => ?_) (fun h5 => ?_)
        · skip
          refine R_seg (φ := []) (pc' := 31) (L' := [.ref 36, .int a, .int i, .int n]) (st' := [.int 4]) (σ' := (mj_KS N, I, mj_PP c d r)) 1 rfl trivial ?_
          exact R_ri rfl rfl (mj_leaf (by simp only [sp_fot, if_neg h1, if_pos h3, if_pos h5, Bool.false_eq_true, ↓reduceIte, bI, cond_true, cond_false]) rfl)
        · skip
          refine R_seg (φ := []) (pc' := 35) (L' := [.ref 36, .int a, .int i, .int n]) (st' := [.int n, .int i, .ref 36]) (σ' := (mj_KS N, I, mj_PP c d r)) 3 rfl trivial ?_
          refine R_ce (idx := 32) (mid := 36) (kind := 0) (N := N) (M' := mj_m_X4_hasCells) (As := [.ref 36, .int i, .int n]) (rest := []) (I := I) (P := mj_PP c d r) (I' := I) (P' := mj_PP c d r) (v := some (.int (bI (sp_hc (I 36 2) i n)))) rfl rfl rfl mj_mc36 mj_dc36 rfl rfl rfl rfl rfl rfl (x_hasCells l b base D z N 36 (by decide) i n I c d r) ?_
          refine R_seg (φ := []) (pc' := 38) (L' := [.ref 36, .int a, .int i, .int n]) (st' := [.int (bI (sp_hc (I 36 2) i n))]) (σ' := (mj_KS N, I, mj_PP c d r)) 0 rfl trivial ?_
          refine R_br (q := (bI (sp_hc (I 36 2) i n) : Int32) = 0) (t := 45) (f := 41) (rest := []) rfl (fun h6 => ?_) (fun h6 => ?_)
          · skip
            replace h6 := bI_0.mp h6
            refine R_seg (φ := []) (pc' := 46) (L' := [.ref 36, .int a, .int i, .int n]) (st' := [.int 3]) (σ' := (mj_KS N, I, mj_PP c d r)) 1 rfl trivial ?_
            exact R_ri rfl rfl (mj_leaf (by simp only [sp_fot, if_neg h1, if_pos h3, if_neg h5, h6, Bool.false_eq_true, ↓reduceIte, bI, cond_true, cond_false]) rfl)
          · skip
            replace h6 := bI_1 h6
            refine R_seg (φ := []) (pc' := 46) (L' := [.ref 36, .int a, .int i, .int n]) (st' := [.int 0]) (σ' := (mj_KS N, I, mj_PP c d r)) 2 rfl trivial ?_
            exact R_ri rfl rfl (mj_leaf (by simp only [sp_fot, if_neg h1, if_pos h3, if_neg h5, h6, Bool.false_eq_true, ↓reduceIte, bI, cond_true, cond_false]) rfl)
      · skip
        refine R_seg (φ := []) (pc' := 16) (L' := [.ref 36, .int a, .int i, .int n]) (st' := [.int 2]) (σ' := (mj_KS N, I, mj_PP c d r)) 1 rfl trivial ?_
        exact R_ri rfl rfl (mj_leaf (by simp only [sp_fot, if_neg h1, if_neg h3, Bool.false_eq_true, ↓reduceIte, bI, cond_true, cond_false]) rfl)
  · show mj_Rn l b base D z mj_m_X4_faultOfTaking 0 [.ref 38, .int a, .int i, .int n] [] (mj_KS N, I, mj_PP c d r) (mj_E N (some (.int (sp_fot (I 38 0) (I 38 1) (I 38 2) a i n))) I (mj_PP c d r))
    refine R_seg (φ := []) (pc' := 4) (L' := [.ref 38, .int a, .int i, .int n]) (st' := [.int (I 38 0)]) (σ' := (mj_KS N, I, mj_PP c d r)) 2 rfl trivial ?_
    refine R_br (q := (I 38 0 : Int32) = 0) (t := 17) (f := 7) (rest := []) rfl (fun h1 => ?_) (fun h1 => ?_)
    · skip
      refine R_seg (φ := []) (pc' := 21) (L' := [.ref 38, .int a, .int i, .int n]) (st' := [.int (I 38 0)]) (σ' := (mj_KS N, I, mj_PP c d r)) 2 rfl trivial ?_
      refine R_br (q := (I 38 0 : Int32) = 0) (t := 24) (f := 26) (rest := []) rfl (fun h2 => ?_) (fun h2 => absurd (h1) h2)
      refine R_seg (φ := []) (pc' := 25) (L' := [.ref 38, .int a, .int i, .int n]) (st' := [.int 1]) (σ' := (mj_KS N, I, mj_PP c d r)) 1 rfl trivial ?_
      exact R_ri rfl rfl (mj_leaf (by simp only [sp_fot, if_pos h1, Bool.false_eq_true, ↓reduceIte, bI, cond_true, cond_false]) rfl)
    · skip
      refine R_seg (φ := []) (pc' := 12) (L' := [.ref 38, .int a, .int i, .int n]) (st' := [.int a, .int (I 38 1)]) (σ' := (mj_KS N, I, mj_PP c d r)) 3 rfl trivial ?_
      refine R_br (q := (I 38 1 : Int32) = a) (t := 17) (f := 15) (rest := []) rfl (fun h3 => ?_) (fun h3 => ?_)
      · skip
        refine R_seg (φ := []) (pc' := 21) (L' := [.ref 38, .int a, .int i, .int n]) (st' := [.int (I 38 0)]) (σ' := (mj_KS N, I, mj_PP c d r)) 2 rfl trivial ?_
        refine R_br (q := (I 38 0 : Int32) = 0) (t := 24) (f := 26) (rest := []) rfl (fun h4 => absurd h4 (h1)) (fun h4 => ?_)
        refine R_seg (φ := []) (pc' := 27) (L' := [.ref 38, .int a, .int i, .int n]) (st' := [.int n]) (σ' := (mj_KS N, I, mj_PP c d r)) 1 rfl trivial ?_
        refine R_br (q := (n : Int32) < 0) (t := 30) (f := 32) (rest := []) rfl (fun h5 => ?_) (fun h5 => ?_)
        · skip
          refine R_seg (φ := []) (pc' := 31) (L' := [.ref 38, .int a, .int i, .int n]) (st' := [.int 4]) (σ' := (mj_KS N, I, mj_PP c d r)) 1 rfl trivial ?_
          exact R_ri rfl rfl (mj_leaf (by simp only [sp_fot, if_neg h1, if_pos h3, if_pos h5, Bool.false_eq_true, ↓reduceIte, bI, cond_true, cond_false]) rfl)
        · skip
          refine R_seg (φ := []) (pc' := 35) (L' := [.ref 38, .int a, .int i, .int n]) (st' := [.int n, .int i, .ref 38]) (σ' := (mj_KS N, I, mj_PP c d r)) 3 rfl trivial ?_
          refine R_ce (idx := 32) (mid := 36) (kind := 0) (N := N) (M' := mj_m_X4_hasCells) (As := [.ref 38, .int i, .int n]) (rest := []) (I := I) (P := mj_PP c d r) (I' := I) (P' := mj_PP c d r) (v := some (.int (bI (sp_hc (I 38 2) i n)))) rfl rfl rfl mj_mc36 mj_dc36 rfl rfl rfl rfl rfl rfl (x_hasCells l b base D z N 38 (by decide) i n I c d r) ?_
          refine R_seg (φ := []) (pc' := 38) (L' := [.ref 38, .int a, .int i, .int n]) (st' := [.int (bI (sp_hc (I 38 2) i n))]) (σ' := (mj_KS N, I, mj_PP c d r)) 0 rfl trivial ?_
          refine R_br (q := (bI (sp_hc (I 38 2) i n) : Int32) = 0) (t := 45) (f := 41) (rest := []) rfl (fun h6 => ?_) (fun h6 => ?_)
          · skip
            replace h6 := bI_0.mp h6
            refine R_seg (φ := []) (pc' := 46) (L' := [.ref 38, .int a, .int i, .int n]) (st' := [.int 3]) (σ' := (mj_KS N, I, mj_PP c d r)) 1 rfl trivial ?_
            exact R_ri rfl rfl (mj_leaf (by simp only [sp_fot, if_neg h1, if_pos h3, if_neg h5, h6, Bool.false_eq_true, ↓reduceIte, bI, cond_true, cond_false]) rfl)
          · skip
            replace h6 := bI_1 h6
            refine R_seg (φ := []) (pc' := 46) (L' := [.ref 38, .int a, .int i, .int n]) (st' := [.int 0]) (σ' := (mj_KS N, I, mj_PP c d r)) 2 rfl trivial ?_
            exact R_ri rfl rfl (mj_leaf (by simp only [sp_fot, if_neg h1, if_pos h3, if_neg h5, h6, Bool.false_eq_true, ↓reduceIte, bI, cond_true, cond_false]) rfl)
      · skip
        refine R_seg (φ := []) (pc' := 16) (L' := [.ref 38, .int a, .int i, .int n]) (st' := [.int 2]) (σ' := (mj_KS N, I, mj_PP c d r)) 1 rfl trivial ?_
        exact R_ri rfl rfl (mj_leaf (by simp only [sp_fot, if_neg h1, if_neg h3, Bool.false_eq_true, ↓reduceIte, bI, cond_true, cond_false]) rfl)
  · show mj_Rn l b base D z mj_m_X4_faultOfTaking 0 [.ref 40, .int a, .int i, .int n] [] (mj_KS N, I, mj_PP c d r) (mj_E N (some (.int (sp_fot (I 40 0) (I 40 1) (I 40 2) a i n))) I (mj_PP c d r))
    refine R_seg (φ := []) (pc' := 4) (L' := [.ref 40, .int a, .int i, .int n]) (st' := [.int (I 40 0)]) (σ' := (mj_KS N, I, mj_PP c d r)) 2 rfl trivial ?_
    refine R_br (q := (I 40 0 : Int32) = 0) (t := 17) (f := 7) (rest := []) rfl (fun h1 => ?_) (fun h1 => ?_)
    · skip
      refine R_seg (φ := []) (pc' := 21) (L' := [.ref 40, .int a, .int i, .int n]) (st' := [.int (I 40 0)]) (σ' := (mj_KS N, I, mj_PP c d r)) 2 rfl trivial ?_
      refine R_br (q := (I 40 0 : Int32) = 0) (t := 24) (f := 26) (rest := []) rfl (fun h2 => ?_) (fun h2 => absurd (h1) h2)
      refine R_seg (φ := []) (pc' := 25) (L' := [.ref 40, .int a, .int i, .int n]) (st' := [.int 1]) (σ' := (mj_KS N, I, mj_PP c d r)) 1 rfl trivial ?_
      exact R_ri rfl rfl (mj_leaf (by simp only [sp_fot, if_pos h1, Bool.false_eq_true, ↓reduceIte, bI, cond_true, cond_false]) rfl)
    · skip
      refine R_seg (φ := []) (pc' := 12) (L' := [.ref 40, .int a, .int i, .int n]) (st' := [.int a, .int (I 40 1)]) (σ' := (mj_KS N, I, mj_PP c d r)) 3 rfl trivial ?_
      refine R_br (q := (I 40 1 : Int32) = a) (t := 17) (f := 15) (rest := []) rfl (fun h3 => ?_) (fun h3 => ?_)
      · skip
        refine R_seg (φ := []) (pc' := 21) (L' := [.ref 40, .int a, .int i, .int n]) (st' := [.int (I 40 0)]) (σ' := (mj_KS N, I, mj_PP c d r)) 2 rfl trivial ?_
        refine R_br (q := (I 40 0 : Int32) = 0) (t := 24) (f := 26) (rest := []) rfl (fun h4 => absurd h4 (h1)) (fun h4 => ?_)
        refine R_seg (φ := []) (pc' := 27) (L' := [.ref 40, .int a, .int i, .int n]) (st' := [.int n]) (σ' := (mj_KS N, I, mj_PP c d r)) 1 rfl trivial ?_
        refine R_br (q := (n : Int32) < 0) (t := 30) (f := 32) (rest := []) rfl (fun h5 => ?_) (fun h5 => ?_)
        · skip
          refine R_seg (φ := []) (pc' := 31) (L' := [.ref 40, .int a, .int i, .int n]) (st' := [.int 4]) (σ' := (mj_KS N, I, mj_PP c d r)) 1 rfl trivial ?_
          exact R_ri rfl rfl (mj_leaf (by simp only [sp_fot, if_neg h1, if_pos h3, if_pos h5, Bool.false_eq_true, ↓reduceIte, bI, cond_true, cond_false]) rfl)
        · skip
          refine R_seg (φ := []) (pc' := 35) (L' := [.ref 40, .int a, .int i, .int n]) (st' := [.int n, .int i, .ref 40]) (σ' := (mj_KS N, I, mj_PP c d r)) 3 rfl trivial ?_
          refine R_ce (idx := 32) (mid := 36) (kind := 0) (N := N) (M' := mj_m_X4_hasCells) (As := [.ref 40, .int i, .int n]) (rest := []) (I := I) (P := mj_PP c d r) (I' := I) (P' := mj_PP c d r) (v := some (.int (bI (sp_hc (I 40 2) i n)))) rfl rfl rfl mj_mc36 mj_dc36 rfl rfl rfl rfl rfl rfl (x_hasCells l b base D z N 40 (by decide) i n I c d r) ?_
          refine R_seg (φ := []) (pc' := 38) (L' := [.ref 40, .int a, .int i, .int n]) (st' := [.int (bI (sp_hc (I 40 2) i n))]) (σ' := (mj_KS N, I, mj_PP c d r)) 0 rfl trivial ?_
          refine R_br (q := (bI (sp_hc (I 40 2) i n) : Int32) = 0) (t := 45) (f := 41) (rest := []) rfl (fun h6 => ?_) (fun h6 => ?_)
          · skip
            replace h6 := bI_0.mp h6
            refine R_seg (φ := []) (pc' := 46) (L' := [.ref 40, .int a, .int i, .int n]) (st' := [.int 3]) (σ' := (mj_KS N, I, mj_PP c d r)) 1 rfl trivial ?_
            exact R_ri rfl rfl (mj_leaf (by simp only [sp_fot, if_neg h1, if_pos h3, if_neg h5, h6, Bool.false_eq_true, ↓reduceIte, bI, cond_true, cond_false]) rfl)
          · skip
            replace h6 := bI_1 h6
            refine R_seg (φ := []) (pc' := 46) (L' := [.ref 40, .int a, .int i, .int n]) (st' := [.int 0]) (σ' := (mj_KS N, I, mj_PP c d r)) 2 rfl trivial ?_
            exact R_ri rfl rfl (mj_leaf (by simp only [sp_fot, if_neg h1, if_pos h3, if_neg h5, h6, Bool.false_eq_true, ↓reduceIte, bI, cond_true, cond_false]) rfl)
      · skip
        refine R_seg (φ := []) (pc' := 16) (L' := [.ref 40, .int a, .int i, .int n]) (st' := [.int 2]) (σ' := (mj_KS N, I, mj_PP c d r)) 1 rfl trivial ?_
        exact R_ri rfl rfl (mj_leaf (by simp only [sp_fot, if_neg h1, if_neg h3, Bool.false_eq_true, ↓reduceIte, bI, cond_true, cond_false]) rfl)
set_option maxHeartbeats 4000000 in
theorem x_cut (l : Launch) (b base : Nat) (D : va_G) (z : mj_K × (Int32 → Int32)) (N : Nat) (sh : Nat) (hsh : sh = 34 ∨ sh = 36 ∨ sh = 38 ∨ sh = 40) (v : Int32) (I : mj_I) (c d r : Nat) : mj_Rn l b base D z mj_m_X4_cut 0 [.ref sh, .int v] [] (mj_KS N, I, mj_PP c d r) (mj_E N (some (.int (sp_cut (I sh 1) v))) I (mj_PP c d r)) := by
  rcases hsh with rfl | rfl | rfl | rfl
  · show mj_Rn l b base D z mj_m_X4_cut 0 [.ref 34, .int v] [] (mj_KS N, I, mj_PP c d r) (mj_E N (some (.int (sp_cut (I 34 1) v))) I (mj_PP c d r))
    refine R_seg (φ := []) (pc' := 4) (L' := [.ref 34, .int v]) (st' := [.int (I 34 1)]) (σ' := (mj_KS N, I, mj_PP c d r)) 2 rfl trivial ?_
    refine R_br (q := (I 34 1 : Int32) = 0) (t := 7) (f := 10) (rest := []) rfl (fun h1 => ?_) (fun h1 => ?_)
    · skip
      refine R_seg (φ := []) (pc' := 9) (L' := [.ref 34, .int v]) (st' := [.int v.toInt8.toInt32]) (σ' := (mj_KS N, I, mj_PP c d r)) 2 rfl trivial ?_
      exact R_ri rfl rfl (mj_leaf (by simp only [sp_cut, if_pos h1, Bool.false_eq_true, ↓reduceIte, bI, cond_true, cond_false]) rfl)
    · skip
      refine R_seg (φ := []) (pc' := 15) (L' := [.ref 34, .int v]) (st' := [.int 1, .int (I 34 1)]) (σ' := (mj_KS N, I, mj_PP c d r)) 3 rfl trivial ?_
      refine R_br (q := (I 34 1 : Int32) = 1) (t := 18) (f := 23) (rest := []) rfl (fun h2 => ?_) (fun h2 => ?_)
      · skip
        refine R_seg (φ := []) (pc' := 24) (L' := [.ref 34, .int v]) (st' := [.int v.toInt16.toInt32]) (σ' := (mj_KS N, I, mj_PP c d r)) 3 rfl trivial ?_
        exact R_ri rfl rfl (mj_leaf (by simp only [sp_cut, if_neg h1, if_pos h2, Bool.false_eq_true, ↓reduceIte, bI, cond_true, cond_false]) rfl)
      · skip
        refine R_seg (φ := []) (pc' := 24) (L' := [.ref 34, .int v]) (st' := [.int v]) (σ' := (mj_KS N, I, mj_PP c d r)) 1 rfl trivial ?_
        exact R_ri rfl rfl (mj_leaf (by simp only [sp_cut, if_neg h1, if_neg h2, Bool.false_eq_true, ↓reduceIte, bI, cond_true, cond_false]) rfl)
  · show mj_Rn l b base D z mj_m_X4_cut 0 [.ref 36, .int v] [] (mj_KS N, I, mj_PP c d r) (mj_E N (some (.int (sp_cut (I 36 1) v))) I (mj_PP c d r))
    refine R_seg (φ := []) (pc' := 4) (L' := [.ref 36, .int v]) (st' := [.int (I 36 1)]) (σ' := (mj_KS N, I, mj_PP c d r)) 2 rfl trivial ?_
    refine R_br (q := (I 36 1 : Int32) = 0) (t := 7) (f := 10) (rest := []) rfl (fun h1 => ?_) (fun h1 => ?_)
    · skip
      refine R_seg (φ := []) (pc' := 9) (L' := [.ref 36, .int v]) (st' := [.int v.toInt8.toInt32]) (σ' := (mj_KS N, I, mj_PP c d r)) 2 rfl trivial ?_
      exact R_ri rfl rfl (mj_leaf (by simp only [sp_cut, if_pos h1, Bool.false_eq_true, ↓reduceIte, bI, cond_true, cond_false]) rfl)
    · skip
      refine R_seg (φ := []) (pc' := 15) (L' := [.ref 36, .int v]) (st' := [.int 1, .int (I 36 1)]) (σ' := (mj_KS N, I, mj_PP c d r)) 3 rfl trivial ?_
      refine R_br (q := (I 36 1 : Int32) = 1) (t := 18) (f := 23) (rest := []) rfl (fun h2 => ?_) (fun h2 => ?_)
      · skip
        refine R_seg (φ := []) (pc' := 24) (L' := [.ref 36, .int v]) (st' := [.int v.toInt16.toInt32]) (σ' := (mj_KS N, I, mj_PP c d r)) 3 rfl trivial ?_
        exact R_ri rfl rfl (mj_leaf (by simp only [sp_cut, if_neg h1, if_pos h2, Bool.false_eq_true, ↓reduceIte, bI, cond_true, cond_false]) rfl)
      · skip
        refine R_seg (φ := []) (pc' := 24) (L' := [.ref 36, .int v]) (st' := [.int v]) (σ' := (mj_KS N, I, mj_PP c d r)) 1 rfl trivial ?_
        exact R_ri rfl rfl (mj_leaf (by simp only [sp_cut, if_neg h1, if_neg h2, Bool.false_eq_true, ↓reduceIte, bI, cond_true, cond_false]) rfl)
  · show mj_Rn l b base D z mj_m_X4_cut 0 [.ref 38, .int v] [] (mj_KS N, I, mj_PP c d r) (mj_E N (some (.int (sp_cut (I 38 1) v))) I (mj_PP c d r))
    refine R_seg (φ := []) (pc' := 4) (L' := [.ref 38, .int v]) (st' := [.int (I 38 1)]) (σ' := (mj_KS N, I, mj_PP c d r)) 2 rfl trivial ?_
    refine R_br (q := (I 38 1 : Int32) = 0) (t := 7) (f := 10) (rest := []) rfl (fun h1 => ?_) (fun h1 => ?_)
    · skip
      refine R_seg (φ := []) (pc' := 9) (L' := [.ref 38, .int v]) (st' := [.int v.toInt8.toInt32]) (σ' := (mj_KS N, I, mj_PP c d r)) 2 rfl trivial ?_
      exact R_ri rfl rfl (mj_leaf (by simp only [sp_cut, if_pos h1, Bool.false_eq_true, ↓reduceIte, bI, cond_true, cond_false]) rfl)
    · skip
      refine R_seg (φ := []) (pc' := 15) (L' := [.ref 38, .int v]) (st' := [.int 1, .int (I 38 1)]) (σ' := (mj_KS N, I, mj_PP c d r)) 3 rfl trivial ?_
      refine R_br (q := (I 38 1 : Int32) = 1) (t := 18) (f := 23) (rest := []) rfl (fun h2 => ?_) (fun h2 => ?_)
      · skip
        refine R_seg (φ := []) (pc' := 24) (L' := [.ref 38, .int v]) (st' := [.int v.toInt16.toInt32]) (σ' := (mj_KS N, I, mj_PP c d r)) 3 rfl trivial ?_
        exact R_ri rfl rfl (mj_leaf (by simp only [sp_cut, if_neg h1, if_pos h2, Bool.false_eq_true, ↓reduceIte, bI, cond_true, cond_false]) rfl)
      · skip
        refine R_seg (φ := []) (pc' := 24) (L' := [.ref 38, .int v]) (st' := [.int v]) (σ' := (mj_KS N, I, mj_PP c d r)) 1 rfl trivial ?_
        exact R_ri rfl rfl (mj_leaf (by simp only [sp_cut, if_neg h1, if_neg h2, Bool.false_eq_true, ↓reduceIte, bI, cond_true, cond_false]) rfl)
  · show mj_Rn l b base D z mj_m_X4_cut 0 [.ref 40, .int v] [] (mj_KS N, I, mj_PP c d r) (mj_E N (some (.int (sp_cut (I 40 1) v))) I (mj_PP c d r))
    refine R_seg (φ := []) (pc' := 4) (L' := [.ref 40, .int v]) (st' := [.int (I 40 1)]) (σ' := (mj_KS N, I, mj_PP c d r)) 2 rfl trivial ?_
    refine R_br (q := (I 40 1 : Int32) = 0) (t := 7) (f := 10) (rest := []) rfl (fun h1 => ?_) (fun h1 => ?_)
    · skip
      refine R_seg (φ := []) (pc' := 9) (L' := [.ref 40, .int v]) (st' := [.int v.toInt8.toInt32]) (σ' := (mj_KS N, I, mj_PP c d r)) 2 rfl trivial ?_
      exact R_ri rfl rfl (mj_leaf (by simp only [sp_cut, if_pos h1, Bool.false_eq_true, ↓reduceIte, bI, cond_true, cond_false]) rfl)
    · skip
      refine R_seg (φ := []) (pc' := 15) (L' := [.ref 40, .int v]) (st' := [.int 1, .int (I 40 1)]) (σ' := (mj_KS N, I, mj_PP c d r)) 3 rfl trivial ?_
      refine R_br (q := (I 40 1 : Int32) = 1) (t := 18) (f := 23) (rest := []) rfl (fun h2 => ?_) (fun h2 => ?_)
      · skip
        refine R_seg (φ := []) (pc' := 24) (L' := [.ref 40, .int v]) (st' := [.int v.toInt16.toInt32]) (σ' := (mj_KS N, I, mj_PP c d r)) 3 rfl trivial ?_
        exact R_ri rfl rfl (mj_leaf (by simp only [sp_cut, if_neg h1, if_pos h2, Bool.false_eq_true, ↓reduceIte, bI, cond_true, cond_false]) rfl)
      · skip
        refine R_seg (φ := []) (pc' := 24) (L' := [.ref 40, .int v]) (st' := [.int v]) (σ' := (mj_KS N, I, mj_PP c d r)) 1 rfl trivial ?_
        exact R_ri rfl rfl (mj_leaf (by simp only [sp_cut, if_neg h1, if_neg h2, Bool.false_eq_true, ↓reduceIte, bI, cond_true, cond_false]) rfl)
def sp_ren (I : mj_I) (sh : Nat) (a n : Int32) : mj_I := mj_fil (mj_upI (mj_upI (mj_upI I sh 0 1) sh 1 a) sh 2 n) (sh + 1) 60 0
set_option maxHeartbeats 4000000 in
theorem x_renew (l : Launch) (b base : Nat) (D : va_G) (z : mj_K × (Int32 → Int32)) (N : Nat) (sh : Nat) (hsh : sh = 34 ∨ sh = 36 ∨ sh = 38 ∨ sh = 40) (a n : Int32) (I : mj_I) (c d r : Nat) : mj_Rn l b base D z mj_m_X4_renew 0 [.ref sh, .int a, .int n] [] (mj_KS N, I, mj_PP c d r) (mj_E N none (sp_ren I sh a n) (mj_PP c d r)) := by
  rcases hsh with rfl | rfl | rfl | rfl
  · show mj_Rn l b base D z mj_m_X4_renew 0 [.ref 34, .int a, .int n] [] (mj_KS N, I, mj_PP c d r) (mj_E N none (sp_ren I 34 a n) (mj_PP c d r))
    refine R_seg (φ := [(1 : Int32) = 0 ∨ (1 : Int32) = 1]) (pc' := 20) (L' := [.ref 34, .int a, .int n]) (st' := [.int 0, .ref 35]) (σ' := (mj_KS N, (mj_upI (mj_upI (mj_upI I 34 0 1) 34 1 a) 34 2 n), mj_PP c d r)) 12 rfl ⟨Or.inr rfl, trivial⟩ ?_
    refine R_ce (idx := 26) (mid := 161) (kind := 1) (N := N) (M' := mj_m_J7_fill_53178) (As := [.ref 35, .int 0]) (rest := []) (I := (mj_upI (mj_upI (mj_upI I 34 0 1) 34 1 a) 34 2 n)) (P := mj_PP c d r) (I' := mj_fil (mj_upI (mj_upI (mj_upI I 34 0 1) 34 1 a) 34 2 n) 35 60 0) (P' := mj_PP c d r) (v := none) rfl rfl rfl mj_mc161 mj_dc161 rfl rfl rfl rfl rfl rfl (x_fill_35 l b base D z N (mj_upI (mj_upI (mj_upI I 34 0 1) 34 1 a) 34 2 n) 0 c d r) ?_
    refine R_seg (φ := []) (pc' := 23) (L' := [.ref 34, .int a, .int n]) (st' := []) (σ' := (mj_KS N, mj_fil (mj_upI (mj_upI (mj_upI I 34 0 1) 34 1 a) 34 2 n) 35 60 0, mj_PP c d r)) 0 rfl trivial ?_
    exact R_rv rfl rfl (mj_leaf rfl rfl)
  · show mj_Rn l b base D z mj_m_X4_renew 0 [.ref 36, .int a, .int n] [] (mj_KS N, I, mj_PP c d r) (mj_E N none (sp_ren I 36 a n) (mj_PP c d r))
    refine R_seg (φ := [(1 : Int32) = 0 ∨ (1 : Int32) = 1]) (pc' := 20) (L' := [.ref 36, .int a, .int n]) (st' := [.int 0, .ref 37]) (σ' := (mj_KS N, (mj_upI (mj_upI (mj_upI I 36 0 1) 36 1 a) 36 2 n), mj_PP c d r)) 12 rfl ⟨Or.inr rfl, trivial⟩ ?_
    refine R_ce (idx := 26) (mid := 161) (kind := 1) (N := N) (M' := mj_m_J7_fill_53178) (As := [.ref 37, .int 0]) (rest := []) (I := (mj_upI (mj_upI (mj_upI I 36 0 1) 36 1 a) 36 2 n)) (P := mj_PP c d r) (I' := mj_fil (mj_upI (mj_upI (mj_upI I 36 0 1) 36 1 a) 36 2 n) 37 60 0) (P' := mj_PP c d r) (v := none) rfl rfl rfl mj_mc161 mj_dc161 rfl rfl rfl rfl rfl rfl (x_fill_37 l b base D z N (mj_upI (mj_upI (mj_upI I 36 0 1) 36 1 a) 36 2 n) 0 c d r) ?_
    refine R_seg (φ := []) (pc' := 23) (L' := [.ref 36, .int a, .int n]) (st' := []) (σ' := (mj_KS N, mj_fil (mj_upI (mj_upI (mj_upI I 36 0 1) 36 1 a) 36 2 n) 37 60 0, mj_PP c d r)) 0 rfl trivial ?_
    exact R_rv rfl rfl (mj_leaf rfl rfl)
  · show mj_Rn l b base D z mj_m_X4_renew 0 [.ref 38, .int a, .int n] [] (mj_KS N, I, mj_PP c d r) (mj_E N none (sp_ren I 38 a n) (mj_PP c d r))
    refine R_seg (φ := [(1 : Int32) = 0 ∨ (1 : Int32) = 1]) (pc' := 20) (L' := [.ref 38, .int a, .int n]) (st' := [.int 0, .ref 39]) (σ' := (mj_KS N, (mj_upI (mj_upI (mj_upI I 38 0 1) 38 1 a) 38 2 n), mj_PP c d r)) 12 rfl ⟨Or.inr rfl, trivial⟩ ?_
    refine R_ce (idx := 26) (mid := 161) (kind := 1) (N := N) (M' := mj_m_J7_fill_53178) (As := [.ref 39, .int 0]) (rest := []) (I := (mj_upI (mj_upI (mj_upI I 38 0 1) 38 1 a) 38 2 n)) (P := mj_PP c d r) (I' := mj_fil (mj_upI (mj_upI (mj_upI I 38 0 1) 38 1 a) 38 2 n) 39 60 0) (P' := mj_PP c d r) (v := none) rfl rfl rfl mj_mc161 mj_dc161 rfl rfl rfl rfl rfl rfl (x_fill_39 l b base D z N (mj_upI (mj_upI (mj_upI I 38 0 1) 38 1 a) 38 2 n) 0 c d r) ?_
    refine R_seg (φ := []) (pc' := 23) (L' := [.ref 38, .int a, .int n]) (st' := []) (σ' := (mj_KS N, mj_fil (mj_upI (mj_upI (mj_upI I 38 0 1) 38 1 a) 38 2 n) 39 60 0, mj_PP c d r)) 0 rfl trivial ?_
    exact R_rv rfl rfl (mj_leaf rfl rfl)
  · show mj_Rn l b base D z mj_m_X4_renew 0 [.ref 40, .int a, .int n] [] (mj_KS N, I, mj_PP c d r) (mj_E N none (sp_ren I 40 a n) (mj_PP c d r))
    refine R_seg (φ := [(1 : Int32) = 0 ∨ (1 : Int32) = 1]) (pc' := 20) (L' := [.ref 40, .int a, .int n]) (st' := [.int 0, .ref 41]) (σ' := (mj_KS N, (mj_upI (mj_upI (mj_upI I 40 0 1) 40 1 a) 40 2 n), mj_PP c d r)) 12 rfl ⟨Or.inr rfl, trivial⟩ ?_
    refine R_ce (idx := 26) (mid := 161) (kind := 1) (N := N) (M' := mj_m_J7_fill_53178) (As := [.ref 41, .int 0]) (rest := []) (I := (mj_upI (mj_upI (mj_upI I 40 0 1) 40 1 a) 40 2 n)) (P := mj_PP c d r) (I' := mj_fil (mj_upI (mj_upI (mj_upI I 40 0 1) 40 1 a) 40 2 n) 41 60 0) (P' := mj_PP c d r) (v := none) rfl rfl rfl mj_mc161 mj_dc161 rfl rfl rfl rfl rfl rfl (x_fill_41 l b base D z N (mj_upI (mj_upI (mj_upI I 40 0 1) 40 1 a) 40 2 n) 0 c d r) ?_
    refine R_seg (φ := []) (pc' := 23) (L' := [.ref 40, .int a, .int n]) (st' := []) (σ' := (mj_KS N, mj_fil (mj_upI (mj_upI (mj_upI I 40 0 1) 40 1 a) 40 2 n) 41 60 0, mj_PP c d r)) 0 rfl trivial ?_
    exact R_rv rfl rfl (mj_leaf rfl rfl)
