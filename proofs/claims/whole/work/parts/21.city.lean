/-! the city's methods -/
def sp_has (n s : Int32) : Bool := if s < 0 then false else if s < n then true else false
def sp_cor (C : Int32 → Int32) (a b : Int32) : Bool := if C a >>> (b &&& 31) &&& 1 = 1 then true else false
def sp_can (C : Int32 → Int32) (a b : Int32) : Bool := if a = b then true else sp_cor C a b
def sp_cold (S : Int32 → Int32) (a b : Int32) : Int32 := mj_min (mj_abs (S a - S b)) (4 - mj_abs (S a - S b))
def sp_want (kd w se : Int32) : Bool := if se = w then true else if kd = 2 then (if se = w + 1 - (w + 1) / 4 * 4 then true else false) else false
def sp_gr (kd : Int32) (W : Int32 → Int32) (g se : Int32) : Int32 := if g < 0 then 6 else if g < 6 then (if kd = 1 then (if sp_want kd (W (g / 2)) se then g + 1 else 2 * (g / 2)) else (if sp_want kd (W (g / 2)) se then g + 2 else g)) else 6
def sp_g (I : mj_I) (c : Nat) (q g se : Int32) : Int32 := sp_gr (I (c + 3) q) (I (c + 5 + q.toNatClampNeg)) g se
theorem mj_lit {g M : Int32} {n : Nat} (hM : M.toInt = (n : Int)) (h1 : ¬ g < 0) (h2 : ¬ M ≤ g) : ∃ j : Nat, j < n ∧ g = nI j := by
  have a1 : 0 ≤ g.toInt := by
    have := Int32.not_lt.mp h1
    rw [Int32.le_iff_toInt_le, Int32.toInt_zero] at this
    exact this
  have a2 : g.toInt < (n : Int) := by
    have := Int32.not_le.mp h2
    rw [Int32.lt_iff_toInt_lt, hM] at this
    exact this
  exact ⟨g.toNatClampNeg, by have e : g.toNatClampNeg = g.toInt.toNat := rfl; omega, (mj_clamp a1).symm⟩
theorem mj_lt_cases {n : Nat} {p : Nat → Prop} (h : ∀ j, j < n → p j) : ∀ j, j < n → p j := h
theorem mj_half {g : Int32} (h1 : ¬ g < 0) (h2 : g < 6) : mj_in (g / 2) 3 := by
  obtain ⟨j, hj, rfl⟩ := mj_lit (M := 6) (n := 6) (by decide) h1 (Int32.not_le.mpr h2)
  revert j
  unfold mj_in
  decide
set_option maxHeartbeats 4000000 in
theorem x_hasStreet (l : Launch) (b base : Nat) (D : va_G) (z : mj_K × (Int32 → Int32)) (N : Nat) (cc : Nat) (hcc : cc = 2 ∨ cc = 10) (s : Int32) (I : mj_I) (c d r : Nat) : mj_Rn l b base D z mj_m_X1_hasStreet 0 [.ref cc, .int s] [] (mj_KS N, I, mj_PP c d r) (mj_E N (some (.int (bI (sp_has (I cc 0) s)))) I (mj_PP c d r)) := by
  rcases hcc with rfl | rfl
  · skip
    show mj_Rn l b base D z mj_m_X1_hasStreet 0 [.ref 2, .int s] [] (mj_KS N, I, mj_PP c d r) (mj_E N (some (.int (bI (sp_has (I 2 0) s)))) I (mj_PP c d r))
    refine R_seg (φ := []) (pc' := 1) (L' := [.ref 2, .int s]) (st' := [.int s]) (σ' := (mj_KS N, I, mj_PP c d r)) 1 rfl trivial ?_
    refine R_br (q := (s : Int32) < 0) (t := 16) (f := 4) (rest := []) rfl (fun h1 => ?_) (fun h1 => ?_)
    · skip
      refine R_seg (φ := []) (pc' := 17) (L' := [.ref 2, .int s]) (st' := [.int 0]) (σ' := (mj_KS N, I, mj_PP c d r)) 1 rfl trivial ?_
      exact R_rb rfl rfl (Or.inl rfl) (mj_leaf (by simp only [sp_has, if_pos h1, Bool.false_eq_true, ↓reduceIte, bI, cond_true, cond_false]) rfl)
    · skip
      refine R_seg (φ := []) (pc' := 9) (L' := [.ref 2, .int s]) (st' := [.int (I 2 0), .int s]) (σ' := (mj_KS N, I, mj_PP c d r)) 3 rfl trivial ?_
      refine R_br (q := (s : Int32) < I 2 0) (t := 12) (f := 16) (rest := []) rfl (fun h2 => ?_) (fun h2 => ?_)
      · skip
        refine R_seg (φ := []) (pc' := 17) (L' := [.ref 2, .int s]) (st' := [.int 1]) (σ' := (mj_KS N, I, mj_PP c d r)) 2 rfl trivial ?_
        exact R_rb rfl rfl (Or.inr rfl) (mj_leaf (by simp only [sp_has, if_neg h1, if_pos h2, Bool.false_eq_true, ↓reduceIte, bI, cond_true, cond_false]) rfl)
      · skip
        refine R_seg (φ := []) (pc' := 17) (L' := [.ref 2, .int s]) (st' := [.int 0]) (σ' := (mj_KS N, I, mj_PP c d r)) 1 rfl trivial ?_
        exact R_rb rfl rfl (Or.inl rfl) (mj_leaf (by simp only [sp_has, if_neg h1, if_neg h2, Bool.false_eq_true, ↓reduceIte, bI, cond_true, cond_false]) rfl)
  · skip
    show mj_Rn l b base D z mj_m_X1_hasStreet 0 [.ref 10, .int s] [] (mj_KS N, I, mj_PP c d r) (mj_E N (some (.int (bI (sp_has (I 10 0) s)))) I (mj_PP c d r))
    refine R_seg (φ := []) (pc' := 1) (L' := [.ref 10, .int s]) (st' := [.int s]) (σ' := (mj_KS N, I, mj_PP c d r)) 1 rfl trivial ?_
    refine R_br (q := (s : Int32) < 0) (t := 16) (f := 4) (rest := []) rfl (fun h1 => ?_) (fun h1 => ?_)
    · skip
      refine R_seg (φ := []) (pc' := 17) (L' := [.ref 10, .int s]) (st' := [.int 0]) (σ' := (mj_KS N, I, mj_PP c d r)) 1 rfl trivial ?_
      exact R_rb rfl rfl (Or.inl rfl) (mj_leaf (by simp only [sp_has, if_pos h1, Bool.false_eq_true, ↓reduceIte, bI, cond_true, cond_false]) rfl)
    · skip
      refine R_seg (φ := []) (pc' := 9) (L' := [.ref 10, .int s]) (st' := [.int (I 10 0), .int s]) (σ' := (mj_KS N, I, mj_PP c d r)) 3 rfl trivial ?_
      refine R_br (q := (s : Int32) < I 10 0) (t := 12) (f := 16) (rest := []) rfl (fun h2 => ?_) (fun h2 => ?_)
      · skip
        refine R_seg (φ := []) (pc' := 17) (L' := [.ref 10, .int s]) (st' := [.int 1]) (σ' := (mj_KS N, I, mj_PP c d r)) 2 rfl trivial ?_
        exact R_rb rfl rfl (Or.inr rfl) (mj_leaf (by simp only [sp_has, if_neg h1, if_pos h2, Bool.false_eq_true, ↓reduceIte, bI, cond_true, cond_false]) rfl)
      · skip
        refine R_seg (φ := []) (pc' := 17) (L' := [.ref 10, .int s]) (st' := [.int 0]) (σ' := (mj_KS N, I, mj_PP c d r)) 1 rfl trivial ?_
        exact R_rb rfl rfl (Or.inl rfl) (mj_leaf (by simp only [sp_has, if_neg h1, if_neg h2, Bool.false_eq_true, ↓reduceIte, bI, cond_true, cond_false]) rfl)
set_option maxHeartbeats 4000000 in
theorem x_hasPlant (l : Launch) (b base : Nat) (D : va_G) (z : mj_K × (Int32 → Int32)) (N : Nat) (cc : Nat) (hcc : cc = 2 ∨ cc = 10) (s : Int32) (I : mj_I) (c d r : Nat) : mj_Rn l b base D z mj_m_X1_hasPlant 0 [.ref cc, .int s] [] (mj_KS N, I, mj_PP c d r) (mj_E N (some (.int (bI (sp_has (I cc 1) s)))) I (mj_PP c d r)) := by
  rcases hcc with rfl | rfl
  · skip
    show mj_Rn l b base D z mj_m_X1_hasPlant 0 [.ref 2, .int s] [] (mj_KS N, I, mj_PP c d r) (mj_E N (some (.int (bI (sp_has (I 2 1) s)))) I (mj_PP c d r))
    refine R_seg (φ := []) (pc' := 1) (L' := [.ref 2, .int s]) (st' := [.int s]) (σ' := (mj_KS N, I, mj_PP c d r)) 1 rfl trivial ?_
    refine R_br (q := (s : Int32) < 0) (t := 16) (f := 4) (rest := []) rfl (fun h1 => ?_) (fun h1 => ?_)
    · skip
      refine R_seg (φ := []) (pc' := 17) (L' := [.ref 2, .int s]) (st' := [.int 0]) (σ' := (mj_KS N, I, mj_PP c d r)) 1 rfl trivial ?_
      exact R_rb rfl rfl (Or.inl rfl) (mj_leaf (by simp only [sp_has, if_pos h1, Bool.false_eq_true, ↓reduceIte, bI, cond_true, cond_false]) rfl)
    · skip
      refine R_seg (φ := []) (pc' := 9) (L' := [.ref 2, .int s]) (st' := [.int (I 2 1), .int s]) (σ' := (mj_KS N, I, mj_PP c d r)) 3 rfl trivial ?_
      refine R_br (q := (s : Int32) < I 2 1) (t := 12) (f := 16) (rest := []) rfl (fun h2 => ?_) (fun h2 => ?_)
      · skip
        refine R_seg (φ := []) (pc' := 17) (L' := [.ref 2, .int s]) (st' := [.int 1]) (σ' := (mj_KS N, I, mj_PP c d r)) 2 rfl trivial ?_
        exact R_rb rfl rfl (Or.inr rfl) (mj_leaf (by simp only [sp_has, if_neg h1, if_pos h2, Bool.false_eq_true, ↓reduceIte, bI, cond_true, cond_false]) rfl)
      · skip
        refine R_seg (φ := []) (pc' := 17) (L' := [.ref 2, .int s]) (st' := [.int 0]) (σ' := (mj_KS N, I, mj_PP c d r)) 1 rfl trivial ?_
        exact R_rb rfl rfl (Or.inl rfl) (mj_leaf (by simp only [sp_has, if_neg h1, if_neg h2, Bool.false_eq_true, ↓reduceIte, bI, cond_true, cond_false]) rfl)
  · skip
    show mj_Rn l b base D z mj_m_X1_hasPlant 0 [.ref 10, .int s] [] (mj_KS N, I, mj_PP c d r) (mj_E N (some (.int (bI (sp_has (I 10 1) s)))) I (mj_PP c d r))
    refine R_seg (φ := []) (pc' := 1) (L' := [.ref 10, .int s]) (st' := [.int s]) (σ' := (mj_KS N, I, mj_PP c d r)) 1 rfl trivial ?_
    refine R_br (q := (s : Int32) < 0) (t := 16) (f := 4) (rest := []) rfl (fun h1 => ?_) (fun h1 => ?_)
    · skip
      refine R_seg (φ := []) (pc' := 17) (L' := [.ref 10, .int s]) (st' := [.int 0]) (σ' := (mj_KS N, I, mj_PP c d r)) 1 rfl trivial ?_
      exact R_rb rfl rfl (Or.inl rfl) (mj_leaf (by simp only [sp_has, if_pos h1, Bool.false_eq_true, ↓reduceIte, bI, cond_true, cond_false]) rfl)
    · skip
      refine R_seg (φ := []) (pc' := 9) (L' := [.ref 10, .int s]) (st' := [.int (I 10 1), .int s]) (σ' := (mj_KS N, I, mj_PP c d r)) 3 rfl trivial ?_
      refine R_br (q := (s : Int32) < I 10 1) (t := 12) (f := 16) (rest := []) rfl (fun h2 => ?_) (fun h2 => ?_)
      · skip
        refine R_seg (φ := []) (pc' := 17) (L' := [.ref 10, .int s]) (st' := [.int 1]) (σ' := (mj_KS N, I, mj_PP c d r)) 2 rfl trivial ?_
        exact R_rb rfl rfl (Or.inr rfl) (mj_leaf (by simp only [sp_has, if_neg h1, if_pos h2, Bool.false_eq_true, ↓reduceIte, bI, cond_true, cond_false]) rfl)
      · skip
        refine R_seg (φ := []) (pc' := 17) (L' := [.ref 10, .int s]) (st' := [.int 0]) (σ' := (mj_KS N, I, mj_PP c d r)) 1 rfl trivial ?_
        exact R_rb rfl rfl (Or.inl rfl) (mj_leaf (by simp only [sp_has, if_neg h1, if_neg h2, Bool.false_eq_true, ↓reduceIte, bI, cond_true, cond_false]) rfl)
set_option maxHeartbeats 4000000 in
theorem x_hasCorner (l : Launch) (b base : Nat) (D : va_G) (z : mj_K × (Int32 → Int32)) (N : Nat) (cc : Nat) (hcc : cc = 2 ∨ cc = 10) (x y : Int32) (I : mj_I) (c d r : Nat) (hx : mj_in x 6) : mj_Rn l b base D z mj_m_X1_hasCorner 0 [.ref cc, .int x, .int y] [] (mj_KS N, I, mj_PP c d r) (mj_E N (some (.int (bI (sp_cor (I (cc + 2)) x y)))) I (mj_PP c d r)) := by
  rcases hcc with rfl | rfl
  · skip
    show mj_Rn l b base D z mj_m_X1_hasCorner 0 [.ref 2, .int x, .int y] [] (mj_KS N, I, mj_PP c d r) (mj_E N (some (.int (bI (sp_cor (I 4) x y)))) I (mj_PP c d r))
    refine R_seg (φ := [mj_in x 6]) (pc' := 11) (L' := [.ref 2, .int x, .int y]) (st' := [.int 1, .int (((I 4 x) >>> (y &&& 31)) &&& 1)]) (σ' := (mj_KS N, I, mj_PP c d r)) 9 rfl ⟨by assumption, trivial⟩ ?_
    refine R_br (q := (((I 4 x) >>> (y &&& 31)) &&& 1 : Int32) = 1) (t := 14) (f := 18) (rest := []) rfl (fun h1 => ?_) (fun h1 => ?_)
    · skip
      refine R_seg (φ := []) (pc' := 19) (L' := [.ref 2, .int x, .int y]) (st' := [.int 1]) (σ' := (mj_KS N, I, mj_PP c d r)) 2 rfl trivial ?_
      exact R_rb rfl rfl (Or.inr rfl) (mj_leaf (by simp only [sp_cor, if_pos h1, Bool.false_eq_true, ↓reduceIte, bI, cond_true, cond_false]) rfl)
    · skip
      refine R_seg (φ := []) (pc' := 19) (L' := [.ref 2, .int x, .int y]) (st' := [.int 0]) (σ' := (mj_KS N, I, mj_PP c d r)) 1 rfl trivial ?_
      exact R_rb rfl rfl (Or.inl rfl) (mj_leaf (by simp only [sp_cor, if_neg h1, Bool.false_eq_true, ↓reduceIte, bI, cond_true, cond_false]) rfl)
  · skip
    show mj_Rn l b base D z mj_m_X1_hasCorner 0 [.ref 10, .int x, .int y] [] (mj_KS N, I, mj_PP c d r) (mj_E N (some (.int (bI (sp_cor (I 12) x y)))) I (mj_PP c d r))
    refine R_seg (φ := [mj_in x 6]) (pc' := 11) (L' := [.ref 10, .int x, .int y]) (st' := [.int 1, .int (((I 12 x) >>> (y &&& 31)) &&& 1)]) (σ' := (mj_KS N, I, mj_PP c d r)) 9 rfl ⟨by assumption, trivial⟩ ?_
    refine R_br (q := (((I 12 x) >>> (y &&& 31)) &&& 1 : Int32) = 1) (t := 14) (f := 18) (rest := []) rfl (fun h1 => ?_) (fun h1 => ?_)
    · skip
      refine R_seg (φ := []) (pc' := 19) (L' := [.ref 10, .int x, .int y]) (st' := [.int 1]) (σ' := (mj_KS N, I, mj_PP c d r)) 2 rfl trivial ?_
      exact R_rb rfl rfl (Or.inr rfl) (mj_leaf (by simp only [sp_cor, if_pos h1, Bool.false_eq_true, ↓reduceIte, bI, cond_true, cond_false]) rfl)
    · skip
      refine R_seg (φ := []) (pc' := 19) (L' := [.ref 10, .int x, .int y]) (st' := [.int 0]) (σ' := (mj_KS N, I, mj_PP c d r)) 1 rfl trivial ?_
      exact R_rb rfl rfl (Or.inl rfl) (mj_leaf (by simp only [sp_cor, if_neg h1, Bool.false_eq_true, ↓reduceIte, bI, cond_true, cond_false]) rfl)
set_option maxHeartbeats 4000000 in
theorem x_canStep (l : Launch) (b base : Nat) (D : va_G) (z : mj_K × (Int32 → Int32)) (N : Nat) (cc : Nat) (hcc : cc = 2 ∨ cc = 10) (x y : Int32) (I : mj_I) (c d r : Nat) (hx : mj_in x 6) : mj_Rn l b base D z mj_m_X1_canStep 0 [.ref cc, .int x, .int y] [] (mj_KS N, I, mj_PP c d r) (mj_E N (some (.int (bI (sp_can (I (cc + 2)) x y)))) I (mj_PP c d r)) := by
  rcases hcc with rfl | rfl
  · skip
    show mj_Rn l b base D z mj_m_X1_canStep 0 [.ref 2, .int x, .int y] [] (mj_KS N, I, mj_PP c d r) (mj_E N (some (.int (bI (sp_can (I 4) x y)))) I (mj_PP c d r))
    refine R_seg (φ := []) (pc' := 2) (L' := [.ref 2, .int x, .int y]) (st' := [.int y, .int x]) (σ' := (mj_KS N, I, mj_PP c d r)) 2 rfl trivial ?_
    refine R_br (q := (x : Int32) = y) (t := 14) (f := 5) (rest := []) rfl (fun h1 => ?_) (fun h1 => ?_)
    · skip
      refine R_seg (φ := []) (pc' := 19) (L' := [.ref 2, .int x, .int y]) (st' := [.int 1]) (σ' := (mj_KS N, I, mj_PP c d r)) 2 rfl trivial ?_
      exact R_rb rfl rfl (Or.inr rfl) (mj_leaf (by simp only [sp_can, if_pos h1, Bool.false_eq_true, ↓reduceIte, bI, cond_true, cond_false]) rfl)
    · skip
      refine R_seg (φ := []) (pc' := 8) (L' := [.ref 2, .int x, .int y]) (st' := [.int y, .int x, .ref 2]) (σ' := (mj_KS N, I, mj_PP c d r)) 3 rfl trivial ?_
      refine R_ce (idx := 33) (mid := 9) (kind := 0) (N := N) (M' := mj_m_X1_hasCorner) (As := [.ref 2, .int x, .int y]) (rest := []) (I := I) (P := mj_PP c d r) (I' := I) (P' := mj_PP c d r) (v := some (.int (bI (sp_cor (I 4) x y)))) rfl rfl rfl mj_mc9 mj_dc9 rfl rfl rfl rfl rfl rfl (x_hasCorner l b base D z N 2 (by decide) x y I c d r hx) ?_
      refine R_seg (φ := []) (pc' := 11) (L' := [.ref 2, .int x, .int y]) (st' := [.int (bI (sp_cor (I 4) x y))]) (σ' := (mj_KS N, I, mj_PP c d r)) 0 rfl trivial ?_
      refine R_br (q := (bI (sp_cor (I 4) x y) : Int32) = 0) (t := 18) (f := 14) (rest := []) rfl (fun h2 => ?_) (fun h2 => ?_)
      · skip
        replace h2 := bI_0.mp h2
        refine R_seg (φ := []) (pc' := 19) (L' := [.ref 2, .int x, .int y]) (st' := [.int 0]) (σ' := (mj_KS N, I, mj_PP c d r)) 1 rfl trivial ?_
        exact R_rb rfl rfl (Or.inl rfl) (mj_leaf (by simp only [sp_can, if_neg h1, h2, Bool.false_eq_true, ↓reduceIte, bI, cond_true, cond_false]) rfl)
      · skip
        replace h2 := bI_1 h2
        refine R_seg (φ := []) (pc' := 19) (L' := [.ref 2, .int x, .int y]) (st' := [.int 1]) (σ' := (mj_KS N, I, mj_PP c d r)) 2 rfl trivial ?_
        exact R_rb rfl rfl (Or.inr rfl) (mj_leaf (by simp only [sp_can, if_neg h1, h2, Bool.false_eq_true, ↓reduceIte, bI, cond_true, cond_false]) rfl)
  · skip
    show mj_Rn l b base D z mj_m_X1_canStep 0 [.ref 10, .int x, .int y] [] (mj_KS N, I, mj_PP c d r) (mj_E N (some (.int (bI (sp_can (I 12) x y)))) I (mj_PP c d r))
    refine R_seg (φ := []) (pc' := 2) (L' := [.ref 10, .int x, .int y]) (st' := [.int y, .int x]) (σ' := (mj_KS N, I, mj_PP c d r)) 2 rfl trivial ?_
    refine R_br (q := (x : Int32) = y) (t := 14) (f := 5) (rest := []) rfl (fun h1 => ?_) (fun h1 => ?_)
    · skip
      refine R_seg (φ := []) (pc' := 19) (L' := [.ref 10, .int x, .int y]) (st' := [.int 1]) (σ' := (mj_KS N, I, mj_PP c d r)) 2 rfl trivial ?_
      exact R_rb rfl rfl (Or.inr rfl) (mj_leaf (by simp only [sp_can, if_pos h1, Bool.false_eq_true, ↓reduceIte, bI, cond_true, cond_false]) rfl)
    · skip
      refine R_seg (φ := []) (pc' := 8) (L' := [.ref 10, .int x, .int y]) (st' := [.int y, .int x, .ref 10]) (σ' := (mj_KS N, I, mj_PP c d r)) 3 rfl trivial ?_
      refine R_ce (idx := 33) (mid := 9) (kind := 0) (N := N) (M' := mj_m_X1_hasCorner) (As := [.ref 10, .int x, .int y]) (rest := []) (I := I) (P := mj_PP c d r) (I' := I) (P' := mj_PP c d r) (v := some (.int (bI (sp_cor (I 12) x y)))) rfl rfl rfl mj_mc9 mj_dc9 rfl rfl rfl rfl rfl rfl (x_hasCorner l b base D z N 10 (by decide) x y I c d r hx) ?_
      refine R_seg (φ := []) (pc' := 11) (L' := [.ref 10, .int x, .int y]) (st' := [.int (bI (sp_cor (I 12) x y))]) (σ' := (mj_KS N, I, mj_PP c d r)) 0 rfl trivial ?_
      refine R_br (q := (bI (sp_cor (I 12) x y) : Int32) = 0) (t := 18) (f := 14) (rest := []) rfl (fun h2 => ?_) (fun h2 => ?_)
      · skip
        replace h2 := bI_0.mp h2
        refine R_seg (φ := []) (pc' := 19) (L' := [.ref 10, .int x, .int y]) (st' := [.int 0]) (σ' := (mj_KS N, I, mj_PP c d r)) 1 rfl trivial ?_
        exact R_rb rfl rfl (Or.inl rfl) (mj_leaf (by simp only [sp_can, if_neg h1, h2, Bool.false_eq_true, ↓reduceIte, bI, cond_true, cond_false]) rfl)
      · skip
        replace h2 := bI_1 h2
        refine R_seg (φ := []) (pc' := 19) (L' := [.ref 10, .int x, .int y]) (st' := [.int 1]) (σ' := (mj_KS N, I, mj_PP c d r)) 2 rfl trivial ?_
        exact R_rb rfl rfl (Or.inr rfl) (mj_leaf (by simp only [sp_can, if_neg h1, h2, Bool.false_eq_true, ↓reduceIte, bI, cond_true, cond_false]) rfl)
set_option maxHeartbeats 4000000 in
theorem x_coldsOfStep (l : Launch) (b base : Nat) (D : va_G) (z : mj_K × (Int32 → Int32)) (N : Nat) (cc : Nat) (hcc : cc = 2 ∨ cc = 10) (x y : Int32) (I : mj_I) (c d r : Nat) (hx : mj_in x 6) (hy : mj_in y 6) : mj_Rn l b base D z mj_m_X1_coldsOfStep 0 [.ref cc, .int x, .int y, mj_mk] [] (mj_KS N, I, mj_PP c d r) (mj_E N (some (.int (sp_cold (I (cc + 1)) x y))) I (mj_PP c d r)) := by
  rcases hcc with rfl | rfl
  · skip
    show mj_Rn l b base D z mj_m_X1_coldsOfStep 0 [.ref 2, .int x, .int y, mj_mk] [] (mj_KS N, I, mj_PP c d r) (mj_E N (some (.int (sp_cold (I 3) x y))) I (mj_PP c d r))
    refine R_seg (φ := [mj_in x 6, mj_in y 6]) (pc' := 24) (L' := [.ref 2, .int x, .int y, .int (mj_abs ((I 3 x) - (I 3 y)))]) (st' := [.int (mj_min (mj_abs ((I 3 x) - (I 3 y))) (4 - (mj_abs ((I 3 x) - (I 3 y)))))]) (σ' := (mj_KS N, I, mj_PP c d r)) 16 rfl ⟨by assumption, by assumption, trivial⟩ ?_
    exact R_ri rfl rfl (mj_leaf rfl rfl)
  · skip
    show mj_Rn l b base D z mj_m_X1_coldsOfStep 0 [.ref 10, .int x, .int y, mj_mk] [] (mj_KS N, I, mj_PP c d r) (mj_E N (some (.int (sp_cold (I 11) x y))) I (mj_PP c d r))
    refine R_seg (φ := [mj_in x 6, mj_in y 6]) (pc' := 24) (L' := [.ref 10, .int x, .int y, .int (mj_abs ((I 11 x) - (I 11 y)))]) (st' := [.int (mj_min (mj_abs ((I 11 x) - (I 11 y))) (4 - (mj_abs ((I 11 x) - (I 11 y)))))]) (σ' := (mj_KS N, I, mj_PP c d r)) 16 rfl ⟨by assumption, by assumption, trivial⟩ ?_
    exact R_ri rfl rfl (mj_leaf rfl rfl)
set_option maxHeartbeats 4000000 in
theorem x_isWanted (l : Launch) (b base : Nat) (D : va_G) (z : mj_K × (Int32 → Int32)) (N : Nat) (cc : Nat) (hcc : cc = 2 ∨ cc = 10) (q t se : Int32) (hp : q = 0 ∨ q = 1 ∨ q = 2) (I : mj_I) (c d r : Nat) (ht : mj_in t 3) : mj_Rn l b base D z mj_m_X1_isWanted 0 [.ref cc, .int q, .int t, .int se, mj_mk] [] (mj_KS N, I, mj_PP c d r) (mj_E N (some (.int (bI (sp_want (I (cc + 3) q) (I (cc + 5 + q.toNatClampNeg) t) se)))) I (mj_PP c d r)) := by
  rcases hcc with rfl | rfl <;> rcases hp with rfl | rfl | rfl
  · skip
    show mj_Rn l b base D z mj_m_X1_isWanted 0 [.ref 2, .int 0, .int t, .int se, mj_mk] [] (mj_KS N, I, mj_PP c d r) (mj_E N (some (.int (bI (sp_want (I 5 0) (I 7 t) se)))) I (mj_PP c d r))
    refine R_seg (φ := [mj_in 0 3, mj_in t 3]) (pc' := 13) (L' := [.ref 2, .int 0, .int t, .int se, .int (I 7 t)]) (st' := [.int (I 7 t), .int se]) (σ' := (mj_KS N, I, mj_PP c d r)) 9 rfl ⟨mj_in_d (by decide), by assumption, trivial⟩ ?_
    refine R_br (q := (se : Int32) = I 7 t) (t := 16) (f := 18) (rest := []) rfl (fun h1 => ?_) (fun h1 => ?_)
    · skip
      refine R_seg (φ := []) (pc' := 17) (L' := [.ref 2, .int 0, .int t, .int se, .int (I 7 t)]) (st' := [.int 1]) (σ' := (mj_KS N, I, mj_PP c d r)) 1 rfl trivial ?_
      exact R_rb rfl rfl (Or.inr rfl) (mj_leaf (by simp only [sp_want, if_pos h1, Bool.false_eq_true, ↓reduceIte, bI, cond_true, cond_false]) rfl)
    · skip
      refine R_seg (φ := [mj_in 0 3]) (pc' := 25) (L' := [.ref 2, .int 0, .int t, .int se, .int (I 7 t)]) (st' := [.int 2, .int (I 5 0)]) (σ' := (mj_KS N, I, mj_PP c d r)) 5 rfl ⟨mj_in_d (by decide), trivial⟩ ?_
      refine R_br (q := (I 5 0 : Int32) = 2) (t := 28) (f := 42) (rest := []) rfl (fun h2 => ?_) (fun h2 => ?_)
      · skip
        refine R_seg (φ := [¬ (4 : Int32) = 0]) (pc' := 35) (L' := [.ref 2, .int 0, .int t, .int se, .int (I 7 t)]) (st' := [.int (((I 7 t) + 1) - ((I 7 t) + 1) / 4 * 4), .int se]) (σ' := (mj_KS N, I, mj_PP c d r)) 6 rfl ⟨by decide, trivial⟩ ?_
        refine R_br (q := (se : Int32) = ((I 7 t) + 1) - ((I 7 t) + 1) / 4 * 4) (t := 38) (f := 42) (rest := []) rfl (fun h3 => ?_) (fun h3 => ?_)
        · skip
          refine R_seg (φ := []) (pc' := 43) (L' := [.ref 2, .int 0, .int t, .int se, .int (I 7 t)]) (st' := [.int 1]) (σ' := (mj_KS N, I, mj_PP c d r)) 2 rfl trivial ?_
          exact R_rb rfl rfl (Or.inr rfl) (mj_leaf (by simp only [sp_want, if_neg h1, if_pos h2, if_pos h3, Bool.false_eq_true, ↓reduceIte, bI, cond_true, cond_false]) rfl)
        · skip
          refine R_seg (φ := []) (pc' := 43) (L' := [.ref 2, .int 0, .int t, .int se, .int (I 7 t)]) (st' := [.int 0]) (σ' := (mj_KS N, I, mj_PP c d r)) 1 rfl trivial ?_
          exact R_rb rfl rfl (Or.inl rfl) (mj_leaf (by simp only [sp_want, if_neg h1, if_pos h2, if_neg h3, Bool.false_eq_true, ↓reduceIte, bI, cond_true, cond_false]) rfl)
      · skip
        refine R_seg (φ := []) (pc' := 43) (L' := [.ref 2, .int 0, .int t, .int se, .int (I 7 t)]) (st' := [.int 0]) (σ' := (mj_KS N, I, mj_PP c d r)) 1 rfl trivial ?_
        exact R_rb rfl rfl (Or.inl rfl) (mj_leaf (by simp only [sp_want, if_neg h1, if_neg h2, Bool.false_eq_true, ↓reduceIte, bI, cond_true, cond_false]) rfl)
  · skip
    show mj_Rn l b base D z mj_m_X1_isWanted 0 [.ref 2, .int 1, .int t, .int se, mj_mk] [] (mj_KS N, I, mj_PP c d r) (mj_E N (some (.int (bI (sp_want (I 5 1) (I 8 t) se)))) I (mj_PP c d r))
    refine R_seg (φ := [mj_in 1 3, mj_in t 3]) (pc' := 13) (L' := [.ref 2, .int 1, .int t, .int se, .int (I 8 t)]) (st' := [.int (I 8 t), .int se]) (σ' := (mj_KS N, I, mj_PP c d r)) 9 rfl ⟨mj_in_d (by decide), by assumption, trivial⟩ ?_
    refine R_br (q := (se : Int32) = I 8 t) (t := 16) (f := 18) (rest := []) rfl (fun h1 => ?_) (fun h1 => ?_)
    · skip
      refine R_seg (φ := []) (pc' := 17) (L' := [.ref 2, .int 1, .int t, .int se, .int (I 8 t)]) (st' := [.int 1]) (σ' := (mj_KS N, I, mj_PP c d r)) 1 rfl trivial ?_
      exact R_rb rfl rfl (Or.inr rfl) (mj_leaf (by simp only [sp_want, if_pos h1, Bool.false_eq_true, ↓reduceIte, bI, cond_true, cond_false]) rfl)
    · skip
      refine R_seg (φ := [mj_in 1 3]) (pc' := 25) (L' := [.ref 2, .int 1, .int t, .int se, .int (I 8 t)]) (st' := [.int 2, .int (I 5 1)]) (σ' := (mj_KS N, I, mj_PP c d r)) 5 rfl ⟨mj_in_d (by decide), trivial⟩ ?_
      refine R_br (q := (I 5 1 : Int32) = 2) (t := 28) (f := 42) (rest := []) rfl (fun h2 => ?_) (fun h2 => ?_)
      · skip
        refine R_seg (φ := [¬ (4 : Int32) = 0]) (pc' := 35) (L' := [.ref 2, .int 1, .int t, .int se, .int (I 8 t)]) (st' := [.int (((I 8 t) + 1) - ((I 8 t) + 1) / 4 * 4), .int se]) (σ' := (mj_KS N, I, mj_PP c d r)) 6 rfl ⟨by decide, trivial⟩ ?_
        refine R_br (q := (se : Int32) = ((I 8 t) + 1) - ((I 8 t) + 1) / 4 * 4) (t := 38) (f := 42) (rest := []) rfl (fun h3 => ?_) (fun h3 => ?_)
        · skip
          refine R_seg (φ := []) (pc' := 43) (L' := [.ref 2, .int 1, .int t, .int se, .int (I 8 t)]) (st' := [.int 1]) (σ' := (mj_KS N, I, mj_PP c d r)) 2 rfl trivial ?_
          exact R_rb rfl rfl (Or.inr rfl) (mj_leaf (by simp only [sp_want, if_neg h1, if_pos h2, if_pos h3, Bool.false_eq_true, ↓reduceIte, bI, cond_true, cond_false]) rfl)
        · skip
          refine R_seg (φ := []) (pc' := 43) (L' := [.ref 2, .int 1, .int t, .int se, .int (I 8 t)]) (st' := [.int 0]) (σ' := (mj_KS N, I, mj_PP c d r)) 1 rfl trivial ?_
          exact R_rb rfl rfl (Or.inl rfl) (mj_leaf (by simp only [sp_want, if_neg h1, if_pos h2, if_neg h3, Bool.false_eq_true, ↓reduceIte, bI, cond_true, cond_false]) rfl)
      · skip
        refine R_seg (φ := []) (pc' := 43) (L' := [.ref 2, .int 1, .int t, .int se, .int (I 8 t)]) (st' := [.int 0]) (σ' := (mj_KS N, I, mj_PP c d r)) 1 rfl trivial ?_
        exact R_rb rfl rfl (Or.inl rfl) (mj_leaf (by simp only [sp_want, if_neg h1, if_neg h2, Bool.false_eq_true, ↓reduceIte, bI, cond_true, cond_false]) rfl)
  · skip
    show mj_Rn l b base D z mj_m_X1_isWanted 0 [.ref 2, .int 2, .int t, .int se, mj_mk] [] (mj_KS N, I, mj_PP c d r) (mj_E N (some (.int (bI (sp_want (I 5 2) (I 9 t) se)))) I (mj_PP c d r))
    refine R_seg (φ := [mj_in 2 3, mj_in t 3]) (pc' := 13) (L' := [.ref 2, .int 2, .int t, .int se, .int (I 9 t)]) (st' := [.int (I 9 t), .int se]) (σ' := (mj_KS N, I, mj_PP c d r)) 9 rfl ⟨mj_in_d (by decide), by assumption, trivial⟩ ?_
    refine R_br (q := (se : Int32) = I 9 t) (t := 16) (f := 18) (rest := []) rfl (fun h1 => ?_) (fun h1 => ?_)
    · skip
      refine R_seg (φ := []) (pc' := 17) (L' := [.ref 2, .int 2, .int t, .int se, .int (I 9 t)]) (st' := [.int 1]) (σ' := (mj_KS N, I, mj_PP c d r)) 1 rfl trivial ?_
      exact R_rb rfl rfl (Or.inr rfl) (mj_leaf (by simp only [sp_want, if_pos h1, Bool.false_eq_true, ↓reduceIte, bI, cond_true, cond_false]) rfl)
    · skip
      refine R_seg (φ := [mj_in 2 3]) (pc' := 25) (L' := [.ref 2, .int 2, .int t, .int se, .int (I 9 t)]) (st' := [.int 2, .int (I 5 2)]) (σ' := (mj_KS N, I, mj_PP c d r)) 5 rfl ⟨mj_in_d (by decide), trivial⟩ ?_
      refine R_br (q := (I 5 2 : Int32) = 2) (t := 28) (f := 42) (rest := []) rfl (fun h2 => ?_) (fun h2 => ?_)
      · skip
        refine R_seg (φ := [¬ (4 : Int32) = 0]) (pc' := 35) (L' := [.ref 2, .int 2, .int t, .int se, .int (I 9 t)]) (st' := [.int (((I 9 t) + 1) - ((I 9 t) + 1) / 4 * 4), .int se]) (σ' := (mj_KS N, I, mj_PP c d r)) 6 rfl ⟨by decide, trivial⟩ ?_
        refine R_br (q := (se : Int32) = ((I 9 t) + 1) - ((I 9 t) + 1) / 4 * 4) (t := 38) (f := 42) (rest := []) rfl (fun h3 => ?_) (fun h3 => ?_)
        · skip
          refine R_seg (φ := []) (pc' := 43) (L' := [.ref 2, .int 2, .int t, .int se, .int (I 9 t)]) (st' := [.int 1]) (σ' := (mj_KS N, I, mj_PP c d r)) 2 rfl trivial ?_
          exact R_rb rfl rfl (Or.inr rfl) (mj_leaf (by simp only [sp_want, if_neg h1, if_pos h2, if_pos h3, Bool.false_eq_true, ↓reduceIte, bI, cond_true, cond_false]) rfl)
        · skip
          refine R_seg (φ := []) (pc' := 43) (L' := [.ref 2, .int 2, .int t, .int se, .int (I 9 t)]) (st' := [.int 0]) (σ' := (mj_KS N, I, mj_PP c d r)) 1 rfl trivial ?_
          exact R_rb rfl rfl (Or.inl rfl) (mj_leaf (by simp only [sp_want, if_neg h1, if_pos h2, if_neg h3, Bool.false_eq_true, ↓reduceIte, bI, cond_true, cond_false]) rfl)
      · skip
        refine R_seg (φ := []) (pc' := 43) (L' := [.ref 2, .int 2, .int t, .int se, .int (I 9 t)]) (st' := [.int 0]) (σ' := (mj_KS N, I, mj_PP c d r)) 1 rfl trivial ?_
        exact R_rb rfl rfl (Or.inl rfl) (mj_leaf (by simp only [sp_want, if_neg h1, if_neg h2, Bool.false_eq_true, ↓reduceIte, bI, cond_true, cond_false]) rfl)
  · skip
    show mj_Rn l b base D z mj_m_X1_isWanted 0 [.ref 10, .int 0, .int t, .int se, mj_mk] [] (mj_KS N, I, mj_PP c d r) (mj_E N (some (.int (bI (sp_want (I 13 0) (I 15 t) se)))) I (mj_PP c d r))
    refine R_seg (φ := [mj_in 0 3, mj_in t 3]) (pc' := 13) (L' := [.ref 10, .int 0, .int t, .int se, .int (I 15 t)]) (st' := [.int (I 15 t), .int se]) (σ' := (mj_KS N, I, mj_PP c d r)) 9 rfl ⟨mj_in_d (by decide), by assumption, trivial⟩ ?_
    refine R_br (q := (se : Int32) = I 15 t) (t := 16) (f := 18) (rest := []) rfl (fun h1 => ?_) (fun h1 => ?_)
    · skip
      refine R_seg (φ := []) (pc' := 17) (L' := [.ref 10, .int 0, .int t, .int se, .int (I 15 t)]) (st' := [.int 1]) (σ' := (mj_KS N, I, mj_PP c d r)) 1 rfl trivial ?_
      exact R_rb rfl rfl (Or.inr rfl) (mj_leaf (by simp only [sp_want, if_pos h1, Bool.false_eq_true, ↓reduceIte, bI, cond_true, cond_false]) rfl)
    · skip
      refine R_seg (φ := [mj_in 0 3]) (pc' := 25) (L' := [.ref 10, .int 0, .int t, .int se, .int (I 15 t)]) (st' := [.int 2, .int (I 13 0)]) (σ' := (mj_KS N, I, mj_PP c d r)) 5 rfl ⟨mj_in_d (by decide), trivial⟩ ?_
      refine R_br (q := (I 13 0 : Int32) = 2) (t := 28) (f := 42) (rest := []) rfl (fun h2 => ?_) (fun h2 => ?_)
      · skip
        refine R_seg (φ := [¬ (4 : Int32) = 0]) (pc' := 35) (L' := [.ref 10, .int 0, .int t, .int se, .int (I 15 t)]) (st' := [.int (((I 15 t) + 1) - ((I 15 t) + 1) / 4 * 4), .int se]) (σ' := (mj_KS N, I, mj_PP c d r)) 6 rfl ⟨by decide, trivial⟩ ?_
        refine R_br (q := (se : Int32) = ((I 15 t) + 1) - ((I 15 t) + 1) / 4 * 4) (t := 38) (f := 42) (rest := []) rfl (fun h3 => ?_) (fun h3 => ?_)
        · skip
          refine R_seg (φ := []) (pc' := 43) (L' := [.ref 10, .int 0, .int t, .int se, .int (I 15 t)]) (st' := [.int 1]) (σ' := (mj_KS N, I, mj_PP c d r)) 2 rfl trivial ?_
          exact R_rb rfl rfl (Or.inr rfl) (mj_leaf (by simp only [sp_want, if_neg h1, if_pos h2, if_pos h3, Bool.false_eq_true, ↓reduceIte, bI, cond_true, cond_false]) rfl)
        · skip
          refine R_seg (φ := []) (pc' := 43) (L' := [.ref 10, .int 0, .int t, .int se, .int (I 15 t)]) (st' := [.int 0]) (σ' := (mj_KS N, I, mj_PP c d r)) 1 rfl trivial ?_
          exact R_rb rfl rfl (Or.inl rfl) (mj_leaf (by simp only [sp_want, if_neg h1, if_pos h2, if_neg h3, Bool.false_eq_true, ↓reduceIte, bI, cond_true, cond_false]) rfl)
      · skip
        refine R_seg (φ := []) (pc' := 43) (L' := [.ref 10, .int 0, .int t, .int se, .int (I 15 t)]) (st' := [.int 0]) (σ' := (mj_KS N, I, mj_PP c d r)) 1 rfl trivial ?_
        exact R_rb rfl rfl (Or.inl rfl) (mj_leaf (by simp only [sp_want, if_neg h1, if_neg h2, Bool.false_eq_true, ↓reduceIte, bI, cond_true, cond_false]) rfl)
  · skip
    show mj_Rn l b base D z mj_m_X1_isWanted 0 [.ref 10, .int 1, .int t, .int se, mj_mk] [] (mj_KS N, I, mj_PP c d r) (mj_E N (some (.int (bI (sp_want (I 13 1) (I 16 t) se)))) I (mj_PP c d r))
    refine R_seg (φ := [mj_in 1 3, mj_in t 3]) (pc' := 13) (L' := [.ref 10, .int 1, .int t, .int se, .int (I 16 t)]) (st' := [.int (I 16 t), .int se]) (σ' := (mj_KS N, I, mj_PP c d r)) 9 rfl ⟨mj_in_d (by decide), by assumption, trivial⟩ ?_
    refine R_br (q := (se : Int32) = I 16 t) (t := 16) (f := 18) (rest := []) rfl (fun h1 => ?_) (fun h1 => ?_)
    · skip
      refine R_seg (φ := []) (pc' := 17) (L' := [.ref 10, .int 1, .int t, .int se, .int (I 16 t)]) (st' := [.int 1]) (σ' := (mj_KS N, I, mj_PP c d r)) 1 rfl trivial ?_
      exact R_rb rfl rfl (Or.inr rfl) (mj_leaf (by simp only [sp_want, if_pos h1, Bool.false_eq_true, ↓reduceIte, bI, cond_true, cond_false]) rfl)
    · skip
      refine R_seg (φ := [mj_in 1 3]) (pc' := 25) (L' := [.ref 10, .int 1, .int t, .int se, .int (I 16 t)]) (st' := [.int 2, .int (I 13 1)]) (σ' := (mj_KS N, I, mj_PP c d r)) 5 rfl ⟨mj_in_d (by decide), trivial⟩ ?_
      refine R_br (q := (I 13 1 : Int32) = 2) (t := 28) (f := 42) (rest := []) rfl (fun h2 => ?_) (fun h2 => ?_)
      · skip
        refine R_seg (φ := [¬ (4 : Int32) = 0]) (pc' := 35) (L' := [.ref 10, .int 1, .int t, .int se, .int (I 16 t)]) (st' := [.int (((I 16 t) + 1) - ((I 16 t) + 1) / 4 * 4), .int se]) (σ' := (mj_KS N, I, mj_PP c d r)) 6 rfl ⟨by decide, trivial⟩ ?_
        refine R_br (q := (se : Int32) = ((I 16 t) + 1) - ((I 16 t) + 1) / 4 * 4) (t := 38) (f := 42) (rest := []) rfl (fun h3 => ?_) (fun h3 => ?_)
        · skip
          refine R_seg (φ := []) (pc' := 43) (L' := [.ref 10, .int 1, .int t, .int se, .int (I 16 t)]) (st' := [.int 1]) (σ' := (mj_KS N, I, mj_PP c d r)) 2 rfl trivial ?_
          exact R_rb rfl rfl (Or.inr rfl) (mj_leaf (by simp only [sp_want, if_neg h1, if_pos h2, if_pos h3, Bool.false_eq_true, ↓reduceIte, bI, cond_true, cond_false]) rfl)
        · skip
          refine R_seg (φ := []) (pc' := 43) (L' := [.ref 10, .int 1, .int t, .int se, .int (I 16 t)]) (st' := [.int 0]) (σ' := (mj_KS N, I, mj_PP c d r)) 1 rfl trivial ?_
          exact R_rb rfl rfl (Or.inl rfl) (mj_leaf (by simp only [sp_want, if_neg h1, if_pos h2, if_neg h3, Bool.false_eq_true, ↓reduceIte, bI, cond_true, cond_false]) rfl)
      · skip
        refine R_seg (φ := []) (pc' := 43) (L' := [.ref 10, .int 1, .int t, .int se, .int (I 16 t)]) (st' := [.int 0]) (σ' := (mj_KS N, I, mj_PP c d r)) 1 rfl trivial ?_
        exact R_rb rfl rfl (Or.inl rfl) (mj_leaf (by simp only [sp_want, if_neg h1, if_neg h2, Bool.false_eq_true, ↓reduceIte, bI, cond_true, cond_false]) rfl)
  · skip
    show mj_Rn l b base D z mj_m_X1_isWanted 0 [.ref 10, .int 2, .int t, .int se, mj_mk] [] (mj_KS N, I, mj_PP c d r) (mj_E N (some (.int (bI (sp_want (I 13 2) (I 17 t) se)))) I (mj_PP c d r))
    refine R_seg (φ := [mj_in 2 3, mj_in t 3]) (pc' := 13) (L' := [.ref 10, .int 2, .int t, .int se, .int (I 17 t)]) (st' := [.int (I 17 t), .int se]) (σ' := (mj_KS N, I, mj_PP c d r)) 9 rfl ⟨mj_in_d (by decide), by assumption, trivial⟩ ?_
    refine R_br (q := (se : Int32) = I 17 t) (t := 16) (f := 18) (rest := []) rfl (fun h1 => ?_) (fun h1 => ?_)
    · skip
      refine R_seg (φ := []) (pc' := 17) (L' := [.ref 10, .int 2, .int t, .int se, .int (I 17 t)]) (st' := [.int 1]) (σ' := (mj_KS N, I, mj_PP c d r)) 1 rfl trivial ?_
      exact R_rb rfl rfl (Or.inr rfl) (mj_leaf (by simp only [sp_want, if_pos h1, Bool.false_eq_true, ↓reduceIte, bI, cond_true, cond_false]) rfl)
    · skip
      refine R_seg (φ := [mj_in 2 3]) (pc' := 25) (L' := [.ref 10, .int 2, .int t, .int se, .int (I 17 t)]) (st' := [.int 2, .int (I 13 2)]) (σ' := (mj_KS N, I, mj_PP c d r)) 5 rfl ⟨mj_in_d (by decide), trivial⟩ ?_
      refine R_br (q := (I 13 2 : Int32) = 2) (t := 28) (f := 42) (rest := []) rfl (fun h2 => ?_) (fun h2 => ?_)
      · skip
        refine R_seg (φ := [¬ (4 : Int32) = 0]) (pc' := 35) (L' := [.ref 10, .int 2, .int t, .int se, .int (I 17 t)]) (st' := [.int (((I 17 t) + 1) - ((I 17 t) + 1) / 4 * 4), .int se]) (σ' := (mj_KS N, I, mj_PP c d r)) 6 rfl ⟨by decide, trivial⟩ ?_
        refine R_br (q := (se : Int32) = ((I 17 t) + 1) - ((I 17 t) + 1) / 4 * 4) (t := 38) (f := 42) (rest := []) rfl (fun h3 => ?_) (fun h3 => ?_)
        · skip
          refine R_seg (φ := []) (pc' := 43) (L' := [.ref 10, .int 2, .int t, .int se, .int (I 17 t)]) (st' := [.int 1]) (σ' := (mj_KS N, I, mj_PP c d r)) 2 rfl trivial ?_
          exact R_rb rfl rfl (Or.inr rfl) (mj_leaf (by simp only [sp_want, if_neg h1, if_pos h2, if_pos h3, Bool.false_eq_true, ↓reduceIte, bI, cond_true, cond_false]) rfl)
        · skip
          refine R_seg (φ := []) (pc' := 43) (L' := [.ref 10, .int 2, .int t, .int se, .int (I 17 t)]) (st' := [.int 0]) (σ' := (mj_KS N, I, mj_PP c d r)) 1 rfl trivial ?_
          exact R_rb rfl rfl (Or.inl rfl) (mj_leaf (by simp only [sp_want, if_neg h1, if_pos h2, if_neg h3, Bool.false_eq_true, ↓reduceIte, bI, cond_true, cond_false]) rfl)
      · skip
        refine R_seg (φ := []) (pc' := 43) (L' := [.ref 10, .int 2, .int t, .int se, .int (I 17 t)]) (st' := [.int 0]) (σ' := (mj_KS N, I, mj_PP c d r)) 1 rfl trivial ?_
        exact R_rb rfl rfl (Or.inl rfl) (mj_leaf (by simp only [sp_want, if_neg h1, if_neg h2, Bool.false_eq_true, ↓reduceIte, bI, cond_true, cond_false]) rfl)
set_option maxHeartbeats 4000000 in
theorem x_grown (l : Launch) (b base : Nat) (D : va_G) (z : mj_K × (Int32 → Int32)) (N : Nat) (cc : Nat) (hcc : cc = 2 ∨ cc = 10) (q g se : Int32) (hp : q = 0 ∨ q = 1 ∨ q = 2) (I : mj_I) (c d r : Nat) : mj_Rn l b base D z mj_m_X1_grown 0 [.ref cc, .int q, .int g, .int se, mj_mk, mj_mk] [] (mj_KS N, I, mj_PP c d r) (mj_E N (some (.int (sp_g I cc q g se))) I (mj_PP c d r)) := by
  rcases hcc with rfl | rfl <;> rcases hp with rfl | rfl | rfl
  · skip
    show mj_Rn l b base D z mj_m_X1_grown 0 [.ref 2, .int 0, .int g, .int se, mj_mk, mj_mk] [] (mj_KS N, I, mj_PP c d r) (mj_E N (some (.int (sp_gr (I 5 0) (I 7) g se))) I (mj_PP c d r))
    refine R_seg (φ := []) (pc' := 1) (L' := [.ref 2, .int 0, .int g, .int se, mj_mk, mj_mk]) (st' := [.int g]) (σ' := (mj_KS N, I, mj_PP c d r)) 1 rfl trivial ?_
    refine R_br (q := (g : Int32) < 0) (t := 10) (f := 4) (rest := []) rfl (fun h1 => ?_) (fun h1 => ?_)
    · skip
      refine R_seg (φ := []) (pc' := 12) (L' := [.ref 2, .int 0, .int g, .int se, mj_mk, mj_mk]) (st' := [.int 6]) (σ' := (mj_KS N, I, mj_PP c d r)) 1 rfl trivial ?_
      exact R_ri rfl rfl (mj_leaf (by simp only [sp_gr, if_pos h1, Bool.false_eq_true, ↓reduceIte, bI, cond_true, cond_false]) rfl)
    · skip
      refine R_seg (φ := []) (pc' := 7) (L' := [.ref 2, .int 0, .int g, .int se, mj_mk, mj_mk]) (st' := [.int 6, .int g]) (σ' := (mj_KS N, I, mj_PP c d r)) 2 rfl trivial ?_
      refine R_br (q := (g : Int32) < 6) (t := 13) (f := 10) (rest := []) rfl (fun h2 => ?_) (fun h2 => ?_)
      · skip
        refine R_seg (φ := [¬ (2 : Int32) = 0]) (pc' := 23) (L' := [.ref 2, .int 0, .int g, .int se, .int (g / 2), mj_mk]) (st' := [.int se, .int (g / 2), .int 0, .ref 2]) (σ' := (mj_KS N, I, mj_PP c d r)) 8 rfl ⟨by decide, trivial⟩ ?_
        refine R_ce (idx := 52) (mid := 15) (kind := 0) (N := N) (M' := mj_m_X1_isWanted) (As := [.ref 2, .int 0, .int (g / 2), .int se]) (rest := []) (I := I) (P := mj_PP c d r) (I' := I) (P' := mj_PP c d r) (v := some (.int (bI (sp_want (I 5 0) (I 7 (g / 2)) se)))) rfl rfl rfl mj_mc15 mj_dc15 rfl rfl rfl rfl rfl rfl (x_isWanted l b base D z N 2 (by decide) 0 (g / 2) se (by decide) I c d r (mj_half h1 h2)) ?_
        refine R_seg (φ := [mj_in 0 3]) (pc' := 35) (L' := [.ref 2, .int 0, .int g, .int se, .int (g / 2), .int (bI (sp_want (I 5 0) (I 7 (g / 2)) se))]) (st' := [.int 1, .int (I 5 0)]) (σ' := (mj_KS N, I, mj_PP c d r)) 6 rfl ⟨mj_in_d (by decide), trivial⟩ ?_
        refine R_br (q := (I 5 0 : Int32) = 1) (t := 38) (f := 54) (rest := []) rfl (fun h3 => ?_) (fun h3 => ?_)
        · skip
          refine R_seg (φ := []) (pc' := 40) (L' := [.ref 2, .int 0, .int g, .int se, .int (g / 2), .int (bI (sp_want (I 5 0) (I 7 (g / 2)) se))]) (st' := [.int (bI (sp_want (I 5 0) (I 7 (g / 2)) se))]) (σ' := (mj_KS N, I, mj_PP c d r)) 1 rfl trivial ?_
          refine R_br (q := (bI (sp_want (I 5 0) (I 7 (g / 2)) se) : Int32) = 0) (t := 49) (f := 43) (rest := []) rfl (fun h4 => ?_) (fun h4 => ?_)
          · skip
            replace h4 := bI_0.mp h4
            refine R_seg (φ := []) (pc' := 53) (L' := [.ref 2, .int 0, .int g, .int se, .int (g / 2), .int (bI (sp_want (I 5 0) (I 7 (g / 2)) se))]) (st' := [.int (2 * (g / 2))]) (σ' := (mj_KS N, I, mj_PP c d r)) 3 rfl trivial ?_
            exact R_ri rfl rfl (mj_leaf (by simp only [sp_gr, if_neg h1, if_pos h2, if_pos h3, h4, Bool.false_eq_true, ↓reduceIte, bI, cond_true, cond_false]) rfl)
          · skip
            replace h4 := bI_1 h4
            refine R_seg (φ := []) (pc' := 53) (L' := [.ref 2, .int 0, .int g, .int se, .int (g / 2), .int (bI (sp_want (I 5 0) (I 7 (g / 2)) se))]) (st' := [.int (g + 1)]) (σ' := (mj_KS N, I, mj_PP c d r)) 4 rfl trivial ?_
            exact R_ri rfl rfl (mj_leaf (by simp only [sp_gr, if_neg h1, if_pos h2, if_pos h3, h4, Bool.false_eq_true, ↓reduceIte, bI, cond_true, cond_false]) rfl)
        · skip
          refine R_seg (φ := []) (pc' := 56) (L' := [.ref 2, .int 0, .int g, .int se, .int (g / 2), .int (bI (sp_want (I 5 0) (I 7 (g / 2)) se))]) (st' := [.int (bI (sp_want (I 5 0) (I 7 (g / 2)) se))]) (σ' := (mj_KS N, I, mj_PP c d r)) 1 rfl trivial ?_
          refine R_br (q := (bI (sp_want (I 5 0) (I 7 (g / 2)) se) : Int32) = 0) (t := 65) (f := 59) (rest := []) rfl (fun h5 => ?_) (fun h5 => ?_)
          · skip
            replace h5 := bI_0.mp h5
            refine R_seg (φ := []) (pc' := 66) (L' := [.ref 2, .int 0, .int g, .int se, .int (g / 2), .int (bI (sp_want (I 5 0) (I 7 (g / 2)) se))]) (st' := [.int g]) (σ' := (mj_KS N, I, mj_PP c d r)) 1 rfl trivial ?_
            exact R_ri rfl rfl (mj_leaf (by simp only [sp_gr, if_neg h1, if_pos h2, if_neg h3, h5, Bool.false_eq_true, ↓reduceIte, bI, cond_true, cond_false]) rfl)
          · skip
            replace h5 := bI_1 h5
            refine R_seg (φ := []) (pc' := 66) (L' := [.ref 2, .int 0, .int g, .int se, .int (g / 2), .int (bI (sp_want (I 5 0) (I 7 (g / 2)) se))]) (st' := [.int (g + 2)]) (σ' := (mj_KS N, I, mj_PP c d r)) 4 rfl trivial ?_
            exact R_ri rfl rfl (mj_leaf (by simp only [sp_gr, if_neg h1, if_pos h2, if_neg h3, h5, Bool.false_eq_true, ↓reduceIte, bI, cond_true, cond_false]) rfl)
      · skip
        refine R_seg (φ := []) (pc' := 12) (L' := [.ref 2, .int 0, .int g, .int se, mj_mk, mj_mk]) (st' := [.int 6]) (σ' := (mj_KS N, I, mj_PP c d r)) 1 rfl trivial ?_
        exact R_ri rfl rfl (mj_leaf (by simp only [sp_gr, if_neg h1, if_neg h2, Bool.false_eq_true, ↓reduceIte, bI, cond_true, cond_false]) rfl)
  · skip
    show mj_Rn l b base D z mj_m_X1_grown 0 [.ref 2, .int 1, .int g, .int se, mj_mk, mj_mk] [] (mj_KS N, I, mj_PP c d r) (mj_E N (some (.int (sp_gr (I 5 1) (I 8) g se))) I (mj_PP c d r))
    refine R_seg (φ := []) (pc' := 1) (L' := [.ref 2, .int 1, .int g, .int se, mj_mk, mj_mk]) (st' := [.int g]) (σ' := (mj_KS N, I, mj_PP c d r)) 1 rfl trivial ?_
    refine R_br (q := (g : Int32) < 0) (t := 10) (f := 4) (rest := []) rfl (fun h1 => ?_) (fun h1 => ?_)
    · skip
      refine R_seg (φ := []) (pc' := 12) (L' := [.ref 2, .int 1, .int g, .int se, mj_mk, mj_mk]) (st' := [.int 6]) (σ' := (mj_KS N, I, mj_PP c d r)) 1 rfl trivial ?_
      exact R_ri rfl rfl (mj_leaf (by simp only [sp_gr, if_pos h1, Bool.false_eq_true, ↓reduceIte, bI, cond_true, cond_false]) rfl)
    · skip
      refine R_seg (φ := []) (pc' := 7) (L' := [.ref 2, .int 1, .int g, .int se, mj_mk, mj_mk]) (st' := [.int 6, .int g]) (σ' := (mj_KS N, I, mj_PP c d r)) 2 rfl trivial ?_
      refine R_br (q := (g : Int32) < 6) (t := 13) (f := 10) (rest := []) rfl (fun h2 => ?_) (fun h2 => ?_)
      · skip
        refine R_seg (φ := [¬ (2 : Int32) = 0]) (pc' := 23) (L' := [.ref 2, .int 1, .int g, .int se, .int (g / 2), mj_mk]) (st' := [.int se, .int (g / 2), .int 1, .ref 2]) (σ' := (mj_KS N, I, mj_PP c d r)) 8 rfl ⟨by decide, trivial⟩ ?_
        refine R_ce (idx := 52) (mid := 15) (kind := 0) (N := N) (M' := mj_m_X1_isWanted) (As := [.ref 2, .int 1, .int (g / 2), .int se]) (rest := []) (I := I) (P := mj_PP c d r) (I' := I) (P' := mj_PP c d r) (v := some (.int (bI (sp_want (I 5 1) (I 8 (g / 2)) se)))) rfl rfl rfl mj_mc15 mj_dc15 rfl rfl rfl rfl rfl rfl (x_isWanted l b base D z N 2 (by decide) 1 (g / 2) se (by decide) I c d r (mj_half h1 h2)) ?_
        refine R_seg (φ := [mj_in 1 3]) (pc' := 35) (L' := [.ref 2, .int 1, .int g, .int se, .int (g / 2), .int (bI (sp_want (I 5 1) (I 8 (g / 2)) se))]) (st' := [.int 1, .int (I 5 1)]) (σ' := (mj_KS N, I, mj_PP c d r)) 6 rfl ⟨mj_in_d (by decide), trivial⟩ ?_
        refine R_br (q := (I 5 1 : Int32) = 1) (t := 38) (f := 54) (rest := []) rfl (fun h3 => ?_) (fun h3 => ?_)
        · skip
          refine R_seg (φ := []) (pc' := 40) (L' := [.ref 2, .int 1, .int g, .int se, .int (g / 2), .int (bI (sp_want (I 5 1) (I 8 (g / 2)) se))]) (st' := [.int (bI (sp_want (I 5 1) (I 8 (g / 2)) se))]) (σ' := (mj_KS N, I, mj_PP c d r)) 1 rfl trivial ?_
          refine R_br (q := (bI (sp_want (I 5 1) (I 8 (g / 2)) se) : Int32) = 0) (t := 49) (f := 43) (rest := []) rfl (fun h4 => ?_) (fun h4 => ?_)
          · skip
            replace h4 := bI_0.mp h4
            refine R_seg (φ := []) (pc' := 53) (L' := [.ref 2, .int 1, .int g, .int se, .int (g / 2), .int (bI (sp_want (I 5 1) (I 8 (g / 2)) se))]) (st' := [.int (2 * (g / 2))]) (σ' := (mj_KS N, I, mj_PP c d r)) 3 rfl trivial ?_
            exact R_ri rfl rfl (mj_leaf (by simp only [sp_gr, if_neg h1, if_pos h2, if_pos h3, h4, Bool.false_eq_true, ↓reduceIte, bI, cond_true, cond_false]) rfl)
          · skip
            replace h4 := bI_1 h4
            refine R_seg (φ := []) (pc' := 53) (L' := [.ref 2, .int 1, .int g, .int se, .int (g / 2), .int (bI (sp_want (I 5 1) (I 8 (g / 2)) se))]) (st' := [.int (g + 1)]) (σ' := (mj_KS N, I, mj_PP c d r)) 4 rfl trivial ?_
            exact R_ri rfl rfl (mj_leaf (by simp only [sp_gr, if_neg h1, if_pos h2, if_pos h3, h4, Bool.false_eq_true, ↓reduceIte, bI, cond_true, cond_false]) rfl)
        · skip
          refine R_seg (φ := []) (pc' := 56) (L' := [.ref 2, .int 1, .int g, .int se, .int (g / 2), .int (bI (sp_want (I 5 1) (I 8 (g / 2)) se))]) (st' := [.int (bI (sp_want (I 5 1) (I 8 (g / 2)) se))]) (σ' := (mj_KS N, I, mj_PP c d r)) 1 rfl trivial ?_
          refine R_br (q := (bI (sp_want (I 5 1) (I 8 (g / 2)) se) : Int32) = 0) (t := 65) (f := 59) (rest := []) rfl (fun h5 => ?_) (fun h5 => ?_)
          · skip
            replace h5 := bI_0.mp h5
            refine R_seg (φ := []) (pc' := 66) (L' := [.ref 2, .int 1, .int g, .int se, .int (g / 2), .int (bI (sp_want (I 5 1) (I 8 (g / 2)) se))]) (st' := [.int g]) (σ' := (mj_KS N, I, mj_PP c d r)) 1 rfl trivial ?_
            exact R_ri rfl rfl (mj_leaf (by simp only [sp_gr, if_neg h1, if_pos h2, if_neg h3, h5, Bool.false_eq_true, ↓reduceIte, bI, cond_true, cond_false]) rfl)
          · skip
            replace h5 := bI_1 h5
            refine R_seg (φ := []) (pc' := 66) (L' := [.ref 2, .int 1, .int g, .int se, .int (g / 2), .int (bI (sp_want (I 5 1) (I 8 (g / 2)) se))]) (st' := [.int (g + 2)]) (σ' := (mj_KS N, I, mj_PP c d r)) 4 rfl trivial ?_
            exact R_ri rfl rfl (mj_leaf (by simp only [sp_gr, if_neg h1, if_pos h2, if_neg h3, h5, Bool.false_eq_true, ↓reduceIte, bI, cond_true, cond_false]) rfl)
      · skip
        refine R_seg (φ := []) (pc' := 12) (L' := [.ref 2, .int 1, .int g, .int se, mj_mk, mj_mk]) (st' := [.int 6]) (σ' := (mj_KS N, I, mj_PP c d r)) 1 rfl trivial ?_
        exact R_ri rfl rfl (mj_leaf (by simp only [sp_gr, if_neg h1, if_neg h2, Bool.false_eq_true, ↓reduceIte, bI, cond_true, cond_false]) rfl)
  · skip
    show mj_Rn l b base D z mj_m_X1_grown 0 [.ref 2, .int 2, .int g, .int se, mj_mk, mj_mk] [] (mj_KS N, I, mj_PP c d r) (mj_E N (some (.int (sp_gr (I 5 2) (I 9) g se))) I (mj_PP c d r))
    refine R_seg (φ := []) (pc' := 1) (L' := [.ref 2, .int 2, .int g, .int se, mj_mk, mj_mk]) (st' := [.int g]) (σ' := (mj_KS N, I, mj_PP c d r)) 1 rfl trivial ?_
    refine R_br (q := (g : Int32) < 0) (t := 10) (f := 4) (rest := []) rfl (fun h1 => ?_) (fun h1 => ?_)
    · skip
      refine R_seg (φ := []) (pc' := 12) (L' := [.ref 2, .int 2, .int g, .int se, mj_mk, mj_mk]) (st' := [.int 6]) (σ' := (mj_KS N, I, mj_PP c d r)) 1 rfl trivial ?_
      exact R_ri rfl rfl (mj_leaf (by simp only [sp_gr, if_pos h1, Bool.false_eq_true, ↓reduceIte, bI, cond_true, cond_false]) rfl)
    · skip
      refine R_seg (φ := []) (pc' := 7) (L' := [.ref 2, .int 2, .int g, .int se, mj_mk, mj_mk]) (st' := [.int 6, .int g]) (σ' := (mj_KS N, I, mj_PP c d r)) 2 rfl trivial ?_
      refine R_br (q := (g : Int32) < 6) (t := 13) (f := 10) (rest := []) rfl (fun h2 => ?_) (fun h2 => ?_)
      · skip
        refine R_seg (φ := [¬ (2 : Int32) = 0]) (pc' := 23) (L' := [.ref 2, .int 2, .int g, .int se, .int (g / 2), mj_mk]) (st' := [.int se, .int (g / 2), .int 2, .ref 2]) (σ' := (mj_KS N, I, mj_PP c d r)) 8 rfl ⟨by decide, trivial⟩ ?_
        refine R_ce (idx := 52) (mid := 15) (kind := 0) (N := N) (M' := mj_m_X1_isWanted) (As := [.ref 2, .int 2, .int (g / 2), .int se]) (rest := []) (I := I) (P := mj_PP c d r) (I' := I) (P' := mj_PP c d r) (v := some (.int (bI (sp_want (I 5 2) (I 9 (g / 2)) se)))) rfl rfl rfl mj_mc15 mj_dc15 rfl rfl rfl rfl rfl rfl (x_isWanted l b base D z N 2 (by decide) 2 (g / 2) se (by decide) I c d r (mj_half h1 h2)) ?_
        refine R_seg (φ := [mj_in 2 3]) (pc' := 35) (L' := [.ref 2, .int 2, .int g, .int se, .int (g / 2), .int (bI (sp_want (I 5 2) (I 9 (g / 2)) se))]) (st' := [.int 1, .int (I 5 2)]) (σ' := (mj_KS N, I, mj_PP c d r)) 6 rfl ⟨mj_in_d (by decide), trivial⟩ ?_
        refine R_br (q := (I 5 2 : Int32) = 1) (t := 38) (f := 54) (rest := []) rfl (fun h3 => ?_) (fun h3 => ?_)
        · skip
          refine R_seg (φ := []) (pc' := 40) (L' := [.ref 2, .int 2, .int g, .int se, .int (g / 2), .int (bI (sp_want (I 5 2) (I 9 (g / 2)) se))]) (st' := [.int (bI (sp_want (I 5 2) (I 9 (g / 2)) se))]) (σ' := (mj_KS N, I, mj_PP c d r)) 1 rfl trivial ?_
          refine R_br (q := (bI (sp_want (I 5 2) (I 9 (g / 2)) se) : Int32) = 0) (t := 49) (f := 43) (rest := []) rfl (fun h4 => ?_) (fun h4 => ?_)
          · skip
            replace h4 := bI_0.mp h4
            refine R_seg (φ := []) (pc' := 53) (L' := [.ref 2, .int 2, .int g, .int se, .int (g / 2), .int (bI (sp_want (I 5 2) (I 9 (g / 2)) se))]) (st' := [.int (2 * (g / 2))]) (σ' := (mj_KS N, I, mj_PP c d r)) 3 rfl trivial ?_
            exact R_ri rfl rfl (mj_leaf (by simp only [sp_gr, if_neg h1, if_pos h2, if_pos h3, h4, Bool.false_eq_true, ↓reduceIte, bI, cond_true, cond_false]) rfl)
          · skip
            replace h4 := bI_1 h4
            refine R_seg (φ := []) (pc' := 53) (L' := [.ref 2, .int 2, .int g, .int se, .int (g / 2), .int (bI (sp_want (I 5 2) (I 9 (g / 2)) se))]) (st' := [.int (g + 1)]) (σ' := (mj_KS N, I, mj_PP c d r)) 4 rfl trivial ?_
            exact R_ri rfl rfl (mj_leaf (by simp only [sp_gr, if_neg h1, if_pos h2, if_pos h3, h4, Bool.false_eq_true, ↓reduceIte, bI, cond_true, cond_false]) rfl)
        · skip
          refine R_seg (φ := []) (pc' := 56) (L' := [.ref 2, .int 2, .int g, .int se, .int (g / 2), .int (bI (sp_want (I 5 2) (I 9 (g / 2)) se))]) (st' := [.int (bI (sp_want (I 5 2) (I 9 (g / 2)) se))]) (σ' := (mj_KS N, I, mj_PP c d r)) 1 rfl trivial ?_
          refine R_br (q := (bI (sp_want (I 5 2) (I 9 (g / 2)) se) : Int32) = 0) (t := 65) (f := 59) (rest := []) rfl (fun h5 => ?_) (fun h5 => ?_)
          · skip
            replace h5 := bI_0.mp h5
            refine R_seg (φ := []) (pc' := 66) (L' := [.ref 2, .int 2, .int g, .int se, .int (g / 2), .int (bI (sp_want (I 5 2) (I 9 (g / 2)) se))]) (st' := [.int g]) (σ' := (mj_KS N, I, mj_PP c d r)) 1 rfl trivial ?_
            exact R_ri rfl rfl (mj_leaf (by simp only [sp_gr, if_neg h1, if_pos h2, if_neg h3, h5, Bool.false_eq_true, ↓reduceIte, bI, cond_true, cond_false]) rfl)
          · skip
            replace h5 := bI_1 h5
            refine R_seg (φ := []) (pc' := 66) (L' := [.ref 2, .int 2, .int g, .int se, .int (g / 2), .int (bI (sp_want (I 5 2) (I 9 (g / 2)) se))]) (st' := [.int (g + 2)]) (σ' := (mj_KS N, I, mj_PP c d r)) 4 rfl trivial ?_
            exact R_ri rfl rfl (mj_leaf (by simp only [sp_gr, if_neg h1, if_pos h2, if_neg h3, h5, Bool.false_eq_true, ↓reduceIte, bI, cond_true, cond_false]) rfl)
      · skip
        refine R_seg (φ := []) (pc' := 12) (L' := [.ref 2, .int 2, .int g, .int se, mj_mk, mj_mk]) (st' := [.int 6]) (σ' := (mj_KS N, I, mj_PP c d r)) 1 rfl trivial ?_
        exact R_ri rfl rfl (mj_leaf (by simp only [sp_gr, if_neg h1, if_neg h2, Bool.false_eq_true, ↓reduceIte, bI, cond_true, cond_false]) rfl)
  · skip
    show mj_Rn l b base D z mj_m_X1_grown 0 [.ref 10, .int 0, .int g, .int se, mj_mk, mj_mk] [] (mj_KS N, I, mj_PP c d r) (mj_E N (some (.int (sp_gr (I 13 0) (I 15) g se))) I (mj_PP c d r))
    refine R_seg (φ := []) (pc' := 1) (L' := [.ref 10, .int 0, .int g, .int se, mj_mk, mj_mk]) (st' := [.int g]) (σ' := (mj_KS N, I, mj_PP c d r)) 1 rfl trivial ?_
    refine R_br (q := (g : Int32) < 0) (t := 10) (f := 4) (rest := []) rfl (fun h1 => ?_) (fun h1 => ?_)
    · skip
      refine R_seg (φ := []) (pc' := 12) (L' := [.ref 10, .int 0, .int g, .int se, mj_mk, mj_mk]) (st' := [.int 6]) (σ' := (mj_KS N, I, mj_PP c d r)) 1 rfl trivial ?_
      exact R_ri rfl rfl (mj_leaf (by simp only [sp_gr, if_pos h1, Bool.false_eq_true, ↓reduceIte, bI, cond_true, cond_false]) rfl)
    · skip
      refine R_seg (φ := []) (pc' := 7) (L' := [.ref 10, .int 0, .int g, .int se, mj_mk, mj_mk]) (st' := [.int 6, .int g]) (σ' := (mj_KS N, I, mj_PP c d r)) 2 rfl trivial ?_
      refine R_br (q := (g : Int32) < 6) (t := 13) (f := 10) (rest := []) rfl (fun h2 => ?_) (fun h2 => ?_)
      · skip
        refine R_seg (φ := [¬ (2 : Int32) = 0]) (pc' := 23) (L' := [.ref 10, .int 0, .int g, .int se, .int (g / 2), mj_mk]) (st' := [.int se, .int (g / 2), .int 0, .ref 10]) (σ' := (mj_KS N, I, mj_PP c d r)) 8 rfl ⟨by decide, trivial⟩ ?_
        refine R_ce (idx := 52) (mid := 15) (kind := 0) (N := N) (M' := mj_m_X1_isWanted) (As := [.ref 10, .int 0, .int (g / 2), .int se]) (rest := []) (I := I) (P := mj_PP c d r) (I' := I) (P' := mj_PP c d r) (v := some (.int (bI (sp_want (I 13 0) (I 15 (g / 2)) se)))) rfl rfl rfl mj_mc15 mj_dc15 rfl rfl rfl rfl rfl rfl (x_isWanted l b base D z N 10 (by decide) 0 (g / 2) se (by decide) I c d r (mj_half h1 h2)) ?_
        refine R_seg (φ := [mj_in 0 3]) (pc' := 35) (L' := [.ref 10, .int 0, .int g, .int se, .int (g / 2), .int (bI (sp_want (I 13 0) (I 15 (g / 2)) se))]) (st' := [.int 1, .int (I 13 0)]) (σ' := (mj_KS N, I, mj_PP c d r)) 6 rfl ⟨mj_in_d (by decide), trivial⟩ ?_
        refine R_br (q := (I 13 0 : Int32) = 1) (t := 38) (f := 54) (rest := []) rfl (fun h3 => ?_) (fun h3 => ?_)
        · skip
          refine R_seg (φ := []) (pc' := 40) (L' := [.ref 10, .int 0, .int g, .int se, .int (g / 2), .int (bI (sp_want (I 13 0) (I 15 (g / 2)) se))]) (st' := [.int (bI (sp_want (I 13 0) (I 15 (g / 2)) se))]) (σ' := (mj_KS N, I, mj_PP c d r)) 1 rfl trivial ?_
          refine R_br (q := (bI (sp_want (I 13 0) (I 15 (g / 2)) se) : Int32) = 0) (t := 49) (f := 43) (rest := []) rfl (fun h4 => ?_) (fun h4 => ?_)
          · skip
            replace h4 := bI_0.mp h4
            refine R_seg (φ := []) (pc' := 53) (L' := [.ref 10, .int 0, .int g, .int se, .int (g / 2), .int (bI (sp_want (I 13 0) (I 15 (g / 2)) se))]) (st' := [.int (2 * (g / 2))]) (σ' := (mj_KS N, I, mj_PP c d r)) 3 rfl trivial ?_
            exact R_ri rfl rfl (mj_leaf (by simp only [sp_gr, if_neg h1, if_pos h2, if_pos h3, h4, Bool.false_eq_true, ↓reduceIte, bI, cond_true, cond_false]) rfl)
          · skip
            replace h4 := bI_1 h4
            refine R_seg (φ := []) (pc' := 53) (L' := [.ref 10, .int 0, .int g, .int se, .int (g / 2), .int (bI (sp_want (I 13 0) (I 15 (g / 2)) se))]) (st' := [.int (g + 1)]) (σ' := (mj_KS N, I, mj_PP c d r)) 4 rfl trivial ?_
            exact R_ri rfl rfl (mj_leaf (by simp only [sp_gr, if_neg h1, if_pos h2, if_pos h3, h4, Bool.false_eq_true, ↓reduceIte, bI, cond_true, cond_false]) rfl)
        · skip
          refine R_seg (φ := []) (pc' := 56) (L' := [.ref 10, .int 0, .int g, .int se, .int (g / 2), .int (bI (sp_want (I 13 0) (I 15 (g / 2)) se))]) (st' := [.int (bI (sp_want (I 13 0) (I 15 (g / 2)) se))]) (σ' := (mj_KS N, I, mj_PP c d r)) 1 rfl trivial ?_
          refine R_br (q := (bI (sp_want (I 13 0) (I 15 (g / 2)) se) : Int32) = 0) (t := 65) (f := 59) (rest := []) rfl (fun h5 => ?_) (fun h5 => ?_)
          · skip
            replace h5 := bI_0.mp h5
            refine R_seg (φ := []) (pc' := 66) (L' := [.ref 10, .int 0, .int g, .int se, .int (g / 2), .int (bI (sp_want (I 13 0) (I 15 (g / 2)) se))]) (st' := [.int g]) (σ' := (mj_KS N, I, mj_PP c d r)) 1 rfl trivial ?_
            exact R_ri rfl rfl (mj_leaf (by simp only [sp_gr, if_neg h1, if_pos h2, if_neg h3, h5, Bool.false_eq_true, ↓reduceIte, bI, cond_true, cond_false]) rfl)
          · skip
            replace h5 := bI_1 h5
            refine R_seg (φ := []) (pc' := 66) (L' := [.ref 10, .int 0, .int g, .int se, .int (g / 2), .int (bI (sp_want (I 13 0) (I 15 (g / 2)) se))]) (st' := [.int (g + 2)]) (σ' := (mj_KS N, I, mj_PP c d r)) 4 rfl trivial ?_
            exact R_ri rfl rfl (mj_leaf (by simp only [sp_gr, if_neg h1, if_pos h2, if_neg h3, h5, Bool.false_eq_true, ↓reduceIte, bI, cond_true, cond_false]) rfl)
      · skip
        refine R_seg (φ := []) (pc' := 12) (L' := [.ref 10, .int 0, .int g, .int se, mj_mk, mj_mk]) (st' := [.int 6]) (σ' := (mj_KS N, I, mj_PP c d r)) 1 rfl trivial ?_
        exact R_ri rfl rfl (mj_leaf (by simp only [sp_gr, if_neg h1, if_neg h2, Bool.false_eq_true, ↓reduceIte, bI, cond_true, cond_false]) rfl)
  · skip
    show mj_Rn l b base D z mj_m_X1_grown 0 [.ref 10, .int 1, .int g, .int se, mj_mk, mj_mk] [] (mj_KS N, I, mj_PP c d r) (mj_E N (some (.int (sp_gr (I 13 1) (I 16) g se))) I (mj_PP c d r))
    refine R_seg (φ := []) (pc' := 1) (L' := [.ref 10, .int 1, .int g, .int se, mj_mk, mj_mk]) (st' := [.int g]) (σ' := (mj_KS N, I, mj_PP c d r)) 1 rfl trivial ?_
    refine R_br (q := (g : Int32) < 0) (t := 10) (f := 4) (rest := []) rfl (fun h1 => ?_) (fun h1 => ?_)
    · skip
      refine R_seg (φ := []) (pc' := 12) (L' := [.ref 10, .int 1, .int g, .int se, mj_mk, mj_mk]) (st' := [.int 6]) (σ' := (mj_KS N, I, mj_PP c d r)) 1 rfl trivial ?_
      exact R_ri rfl rfl (mj_leaf (by simp only [sp_gr, if_pos h1, Bool.false_eq_true, ↓reduceIte, bI, cond_true, cond_false]) rfl)
    · skip
      refine R_seg (φ := []) (pc' := 7) (L' := [.ref 10, .int 1, .int g, .int se, mj_mk, mj_mk]) (st' := [.int 6, .int g]) (σ' := (mj_KS N, I, mj_PP c d r)) 2 rfl trivial ?_
      refine R_br (q := (g : Int32) < 6) (t := 13) (f := 10) (rest := []) rfl (fun h2 => ?_) (fun h2 => ?_)
      · skip
        refine R_seg (φ := [¬ (2 : Int32) = 0]) (pc' := 23) (L' := [.ref 10, .int 1, .int g, .int se, .int (g / 2), mj_mk]) (st' := [.int se, .int (g / 2), .int 1, .ref 10]) (σ' := (mj_KS N, I, mj_PP c d r)) 8 rfl ⟨by decide, trivial⟩ ?_
        refine R_ce (idx := 52) (mid := 15) (kind := 0) (N := N) (M' := mj_m_X1_isWanted) (As := [.ref 10, .int 1, .int (g / 2), .int se]) (rest := []) (I := I) (P := mj_PP c d r) (I' := I) (P' := mj_PP c d r) (v := some (.int (bI (sp_want (I 13 1) (I 16 (g / 2)) se)))) rfl rfl rfl mj_mc15 mj_dc15 rfl rfl rfl rfl rfl rfl (x_isWanted l b base D z N 10 (by decide) 1 (g / 2) se (by decide) I c d r (mj_half h1 h2)) ?_
        refine R_seg (φ := [mj_in 1 3]) (pc' := 35) (L' := [.ref 10, .int 1, .int g, .int se, .int (g / 2), .int (bI (sp_want (I 13 1) (I 16 (g / 2)) se))]) (st' := [.int 1, .int (I 13 1)]) (σ' := (mj_KS N, I, mj_PP c d r)) 6 rfl ⟨mj_in_d (by decide), trivial⟩ ?_
        refine R_br (q := (I 13 1 : Int32) = 1) (t := 38) (f := 54) (rest := []) rfl (fun h3 => ?_) (fun h3 => ?_)
        · skip
          refine R_seg (φ := []) (pc' := 40) (L' := [.ref 10, .int 1, .int g, .int se, .int (g / 2), .int (bI (sp_want (I 13 1) (I 16 (g / 2)) se))]) (st' := [.int (bI (sp_want (I 13 1) (I 16 (g / 2)) se))]) (σ' := (mj_KS N, I, mj_PP c d r)) 1 rfl trivial ?_
          refine R_br (q := (bI (sp_want (I 13 1) (I 16 (g / 2)) se) : Int32) = 0) (t := 49) (f := 43) (rest := []) rfl (fun h4 => ?_) (fun h4 => ?_)
          · skip
            replace h4 := bI_0.mp h4
            refine R_seg (φ := []) (pc' := 53) (L' := [.ref 10, .int 1, .int g, .int se, .int (g / 2), .int (bI (sp_want (I 13 1) (I 16 (g / 2)) se))]) (st' := [.int (2 * (g / 2))]) (σ' := (mj_KS N, I, mj_PP c d r)) 3 rfl trivial ?_
            exact R_ri rfl rfl (mj_leaf (by simp only [sp_gr, if_neg h1, if_pos h2, if_pos h3, h4, Bool.false_eq_true, ↓reduceIte, bI, cond_true, cond_false]) rfl)
          · skip
            replace h4 := bI_1 h4
            refine R_seg (φ := []) (pc' := 53) (L' := [.ref 10, .int 1, .int g, .int se, .int (g / 2), .int (bI (sp_want (I 13 1) (I 16 (g / 2)) se))]) (st' := [.int (g + 1)]) (σ' := (mj_KS N, I, mj_PP c d r)) 4 rfl trivial ?_
            exact R_ri rfl rfl (mj_leaf (by simp only [sp_gr, if_neg h1, if_pos h2, if_pos h3, h4, Bool.false_eq_true, ↓reduceIte, bI, cond_true, cond_false]) rfl)
        · skip
          refine R_seg (φ := []) (pc' := 56) (L' := [.ref 10, .int 1, .int g, .int se, .int (g / 2), .int (bI (sp_want (I 13 1) (I 16 (g / 2)) se))]) (st' := [.int (bI (sp_want (I 13 1) (I 16 (g / 2)) se))]) (σ' := (mj_KS N, I, mj_PP c d r)) 1 rfl trivial ?_
          refine R_br (q := (bI (sp_want (I 13 1) (I 16 (g / 2)) se) : Int32) = 0) (t := 65) (f := 59) (rest := []) rfl (fun h5 => ?_) (fun h5 => ?_)
          · skip
            replace h5 := bI_0.mp h5
            refine R_seg (φ := []) (pc' := 66) (L' := [.ref 10, .int 1, .int g, .int se, .int (g / 2), .int (bI (sp_want (I 13 1) (I 16 (g / 2)) se))]) (st' := [.int g]) (σ' := (mj_KS N, I, mj_PP c d r)) 1 rfl trivial ?_
            exact R_ri rfl rfl (mj_leaf (by simp only [sp_gr, if_neg h1, if_pos h2, if_neg h3, h5, Bool.false_eq_true, ↓reduceIte, bI, cond_true, cond_false]) rfl)
          · skip
            replace h5 := bI_1 h5
            refine R_seg (φ := []) (pc' := 66) (L' := [.ref 10, .int 1, .int g, .int se, .int (g / 2), .int (bI (sp_want (I 13 1) (I 16 (g / 2)) se))]) (st' := [.int (g + 2)]) (σ' := (mj_KS N, I, mj_PP c d r)) 4 rfl trivial ?_
            exact R_ri rfl rfl (mj_leaf (by simp only [sp_gr, if_neg h1, if_pos h2, if_neg h3, h5, Bool.false_eq_true, ↓reduceIte, bI, cond_true, cond_false]) rfl)
      · skip
        refine R_seg (φ := []) (pc' := 12) (L' := [.ref 10, .int 1, .int g, .int se, mj_mk, mj_mk]) (st' := [.int 6]) (σ' := (mj_KS N, I, mj_PP c d r)) 1 rfl trivial ?_
        exact R_ri rfl rfl (mj_leaf (by simp only [sp_gr, if_neg h1, if_neg h2, Bool.false_eq_true, ↓reduceIte, bI, cond_true, cond_false]) rfl)
  · skip
    show mj_Rn l b base D z mj_m_X1_grown 0 [.ref 10, .int 2, .int g, .int se, mj_mk, mj_mk] [] (mj_KS N, I, mj_PP c d r) (mj_E N (some (.int (sp_gr (I 13 2) (I 17) g se))) I (mj_PP c d r))
    refine R_seg (φ := []) (pc' := 1) (L' := [.ref 10, .int 2, .int g, .int se, mj_mk, mj_mk]) (st' := [.int g]) (σ' := (mj_KS N, I, mj_PP c d r)) 1 rfl trivial ?_
    refine R_br (q := (g : Int32) < 0) (t := 10) (f := 4) (rest := []) rfl (fun h1 => ?_) (fun h1 => ?_)
    · skip
      refine R_seg (φ := []) (pc' := 12) (L' := [.ref 10, .int 2, .int g, .int se, mj_mk, mj_mk]) (st' := [.int 6]) (σ' := (mj_KS N, I, mj_PP c d r)) 1 rfl trivial ?_
      exact R_ri rfl rfl (mj_leaf (by simp only [sp_gr, if_pos h1, Bool.false_eq_true, ↓reduceIte, bI, cond_true, cond_false]) rfl)
    · skip
      refine R_seg (φ := []) (pc' := 7) (L' := [.ref 10, .int 2, .int g, .int se, mj_mk, mj_mk]) (st' := [.int 6, .int g]) (σ' := (mj_KS N, I, mj_PP c d r)) 2 rfl trivial ?_
      refine R_br (q := (g : Int32) < 6) (t := 13) (f := 10) (rest := []) rfl (fun h2 => ?_) (fun h2 => ?_)
      · skip
        refine R_seg (φ := [¬ (2 : Int32) = 0]) (pc' := 23) (L' := [.ref 10, .int 2, .int g, .int se, .int (g / 2), mj_mk]) (st' := [.int se, .int (g / 2), .int 2, .ref 10]) (σ' := (mj_KS N, I, mj_PP c d r)) 8 rfl ⟨by decide, trivial⟩ ?_
        refine R_ce (idx := 52) (mid := 15) (kind := 0) (N := N) (M' := mj_m_X1_isWanted) (As := [.ref 10, .int 2, .int (g / 2), .int se]) (rest := []) (I := I) (P := mj_PP c d r) (I' := I) (P' := mj_PP c d r) (v := some (.int (bI (sp_want (I 13 2) (I 17 (g / 2)) se)))) rfl rfl rfl mj_mc15 mj_dc15 rfl rfl rfl rfl rfl rfl (x_isWanted l b base D z N 10 (by decide) 2 (g / 2) se (by decide) I c d r (mj_half h1 h2)) ?_
        refine R_seg (φ := [mj_in 2 3]) (pc' := 35) (L' := [.ref 10, .int 2, .int g, .int se, .int (g / 2), .int (bI (sp_want (I 13 2) (I 17 (g / 2)) se))]) (st' := [.int 1, .int (I 13 2)]) (σ' := (mj_KS N, I, mj_PP c d r)) 6 rfl ⟨mj_in_d (by decide), trivial⟩ ?_
        refine R_br (q := (I 13 2 : Int32) = 1) (t := 38) (f := 54) (rest := []) rfl (fun h3 => ?_) (fun h3 => ?_)
        · skip
          refine R_seg (φ := []) (pc' := 40) (L' := [.ref 10, .int 2, .int g, .int se, .int (g / 2), .int (bI (sp_want (I 13 2) (I 17 (g / 2)) se))]) (st' := [.int (bI (sp_want (I 13 2) (I 17 (g / 2)) se))]) (σ' := (mj_KS N, I, mj_PP c d r)) 1 rfl trivial ?_
          refine R_br (q := (bI (sp_want (I 13 2) (I 17 (g / 2)) se) : Int32) = 0) (t := 49) (f := 43) (rest := []) rfl (fun h4 => ?_) (fun h4 => ?_)
          · skip
            replace h4 := bI_0.mp h4
            refine R_seg (φ := []) (pc' := 53) (L' := [.ref 10, .int 2, .int g, .int se, .int (g / 2), .int (bI (sp_want (I 13 2) (I 17 (g / 2)) se))]) (st' := [.int (2 * (g / 2))]) (σ' := (mj_KS N, I, mj_PP c d r)) 3 rfl trivial ?_
            exact R_ri rfl rfl (mj_leaf (by simp only [sp_gr, if_neg h1, if_pos h2, if_pos h3, h4, Bool.false_eq_true, ↓reduceIte, bI, cond_true, cond_false]) rfl)
          · skip
            replace h4 := bI_1 h4
            refine R_seg (φ := []) (pc' := 53) (L' := [.ref 10, .int 2, .int g, .int se, .int (g / 2), .int (bI (sp_want (I 13 2) (I 17 (g / 2)) se))]) (st' := [.int (g + 1)]) (σ' := (mj_KS N, I, mj_PP c d r)) 4 rfl trivial ?_
            exact R_ri rfl rfl (mj_leaf (by simp only [sp_gr, if_neg h1, if_pos h2, if_pos h3, h4, Bool.false_eq_true, ↓reduceIte, bI, cond_true, cond_false]) rfl)
        · skip
          refine R_seg (φ := []) (pc' := 56) (L' := [.ref 10, .int 2, .int g, .int se, .int (g / 2), .int (bI (sp_want (I 13 2) (I 17 (g / 2)) se))]) (st' := [.int (bI (sp_want (I 13 2) (I 17 (g / 2)) se))]) (σ' := (mj_KS N, I, mj_PP c d r)) 1 rfl trivial ?_
          refine R_br (q := (bI (sp_want (I 13 2) (I 17 (g / 2)) se) : Int32) = 0) (t := 65) (f := 59) (rest := []) rfl (fun h5 => ?_) (fun h5 => ?_)
          · skip
            replace h5 := bI_0.mp h5
            refine R_seg (φ := []) (pc' := 66) (L' := [.ref 10, .int 2, .int g, .int se, .int (g / 2), .int (bI (sp_want (I 13 2) (I 17 (g / 2)) se))]) (st' := [.int g]) (σ' := (mj_KS N, I, mj_PP c d r)) 1 rfl trivial ?_
            exact R_ri rfl rfl (mj_leaf (by simp only [sp_gr, if_neg h1, if_pos h2, if_neg h3, h5, Bool.false_eq_true, ↓reduceIte, bI, cond_true, cond_false]) rfl)
          · skip
            replace h5 := bI_1 h5
            refine R_seg (φ := []) (pc' := 66) (L' := [.ref 10, .int 2, .int g, .int se, .int (g / 2), .int (bI (sp_want (I 13 2) (I 17 (g / 2)) se))]) (st' := [.int (g + 2)]) (σ' := (mj_KS N, I, mj_PP c d r)) 4 rfl trivial ?_
            exact R_ri rfl rfl (mj_leaf (by simp only [sp_gr, if_neg h1, if_pos h2, if_neg h3, h5, Bool.false_eq_true, ↓reduceIte, bI, cond_true, cond_false]) rfl)
      · skip
        refine R_seg (φ := []) (pc' := 12) (L' := [.ref 10, .int 2, .int g, .int se, mj_mk, mj_mk]) (st' := [.int 6]) (σ' := (mj_KS N, I, mj_PP c d r)) 1 rfl trivial ?_
        exact R_ri rfl rfl (mj_leaf (by simp only [sp_gr, if_neg h1, if_neg h2, Bool.false_eq_true, ↓reduceIte, bI, cond_true, cond_false]) rfl)
def sp_setc (I : mj_I) (k : Nat) (x y v : Int32) : mj_I := if v = 0 then mj_upI (mj_upI I k x (I k x &&& (1 <<< (y &&& 31) ^^^ (-1)))) k y (mj_upI I k x (I k x &&& (1 <<< (y &&& 31) ^^^ (-1))) k y &&& (1 <<< (x &&& 31) ^^^ (-1))) else mj_upI (mj_upI I k x (I k x ||| 1 <<< (y &&& 31))) k y (mj_upI I k x (I k x ||| 1 <<< (y &&& 31)) k y ||| 1 <<< (x &&& 31))
set_option maxHeartbeats 4000000 in
theorem x_setCorner (l : Launch) (b base : Nat) (D : va_G) (z : mj_K × (Int32 → Int32)) (N : Nat) (cc : Nat) (hcc : cc = 2 ∨ cc = 10) (x y v : Int32) (I : mj_I) (c d r : Nat) (hx : mj_in x 6) (hy : mj_in y 6) : mj_Rn l b base D z mj_m_X1_setCorner 0 [.ref cc, .int x, .int y, .int v] [] (mj_KS N, I, mj_PP c d r) (mj_E N none (sp_setc I (cc + 2) x y v) (mj_PP c d r)) := by
  rcases hcc with rfl | rfl
  · skip
    show mj_Rn l b base D z mj_m_X1_setCorner 0 [.ref 2, .int x, .int y, .int v] [] (mj_KS N, I, mj_PP c d r) (mj_E N none (sp_setc I 4 x y v) (mj_PP c d r))
    refine R_seg (φ := []) (pc' := 1) (L' := [.ref 2, .int x, .int y, .int v]) (st' := [.int v]) (σ' := (mj_KS N, I, mj_PP c d r)) 1 rfl trivial ?_
    refine R_br (q := (v : Int32) = 0) (t := 31) (f := 4) (rest := []) rfl (fun h1 => ?_) (fun h1 => ?_)
    · skip
      refine R_seg (φ := [mj_in x 6, mj_in x 6, mj_in y 6, mj_in y 6]) (pc' := 59) (L' := [.ref 2, .int x, .int y, .int v]) (st' := []) (σ' := (mj_KS N, (mj_upI (mj_upI I 4 x ((I 4 x) &&& ((1 <<< (y &&& 31)) ^^^ (-1)))) 4 y (((mj_upI I 4 x ((I 4 x) &&& ((1 <<< (y &&& 31)) ^^^ (-1)))) 4 y) &&& ((1 <<< (x &&& 31)) ^^^ (-1)))), mj_PP c d r)) 24 rfl ⟨by assumption, by assumption, by assumption, by assumption, trivial⟩ ?_
      exact R_rv rfl rfl (mj_leaf rfl (by rw [sp_setc, if_pos h1]))
    · skip
      refine R_seg (φ := [mj_in x 6, mj_in x 6, mj_in y 6, mj_in y 6]) (pc' := 59) (L' := [.ref 2, .int x, .int y, .int v]) (st' := []) (σ' := (mj_KS N, (mj_upI (mj_upI I 4 x ((I 4 x) ||| (1 <<< (y &&& 31)))) 4 y (((mj_upI I 4 x ((I 4 x) ||| (1 <<< (y &&& 31)))) 4 y) ||| (1 <<< (x &&& 31)))), mj_PP c d r)) 21 rfl ⟨by assumption, by assumption, by assumption, by assumption, trivial⟩ ?_
      exact R_rv rfl rfl (mj_leaf rfl (by rw [sp_setc, if_neg h1]))
  · skip
    show mj_Rn l b base D z mj_m_X1_setCorner 0 [.ref 10, .int x, .int y, .int v] [] (mj_KS N, I, mj_PP c d r) (mj_E N none (sp_setc I 12 x y v) (mj_PP c d r))
    refine R_seg (φ := []) (pc' := 1) (L' := [.ref 10, .int x, .int y, .int v]) (st' := [.int v]) (σ' := (mj_KS N, I, mj_PP c d r)) 1 rfl trivial ?_
    refine R_br (q := (v : Int32) = 0) (t := 31) (f := 4) (rest := []) rfl (fun h1 => ?_) (fun h1 => ?_)
    · skip
      refine R_seg (φ := [mj_in x 6, mj_in x 6, mj_in y 6, mj_in y 6]) (pc' := 59) (L' := [.ref 10, .int x, .int y, .int v]) (st' := []) (σ' := (mj_KS N, (mj_upI (mj_upI I 12 x ((I 12 x) &&& ((1 <<< (y &&& 31)) ^^^ (-1)))) 12 y (((mj_upI I 12 x ((I 12 x) &&& ((1 <<< (y &&& 31)) ^^^ (-1)))) 12 y) &&& ((1 <<< (x &&& 31)) ^^^ (-1)))), mj_PP c d r)) 24 rfl ⟨by assumption, by assumption, by assumption, by assumption, trivial⟩ ?_
      exact R_rv rfl rfl (mj_leaf rfl (by rw [sp_setc, if_pos h1]))
    · skip
      refine R_seg (φ := [mj_in x 6, mj_in x 6, mj_in y 6, mj_in y 6]) (pc' := 59) (L' := [.ref 10, .int x, .int y, .int v]) (st' := []) (σ' := (mj_KS N, (mj_upI (mj_upI I 12 x ((I 12 x) ||| (1 <<< (y &&& 31)))) 12 y (((mj_upI I 12 x ((I 12 x) ||| (1 <<< (y &&& 31)))) 12 y) ||| (1 <<< (x &&& 31)))), mj_PP c d r)) 21 rfl ⟨by assumption, by assumption, by assumption, by assumption, trivial⟩ ?_
      exact R_rv rfl rfl (mj_leaf rfl (by rw [sp_setc, if_neg h1]))
def sp_pop (x : Int32) : Int32 := if x = 0 then 0 else (if x &&& 1 = 1 then 1 else 0) + (if x &&& 2 = 2 then 1 else 0) + (if x &&& 4 = 4 then 1 else 0) + (if x &&& 8 = 8 then 1 else 0) + (if x &&& 16 = 16 then 1 else 0) + (if x &&& 32 = 32 then 1 else 0)
set_option maxHeartbeats 4000000 in
theorem x_bitCount (l : Launch) (b base : Nat) (D : va_G) (z : mj_K × (Int32 → Int32)) (N : Nat) (j : Nat) (hj : j < 64) (I : mj_I) (c d r : Nat) : mj_Rn l b base D z mj_m_J6_bitCount_0f7a4 0 [.int (nI j)] [] (mj_KS N, I, mj_PP c d r) (mj_E N (some (.int (sp_pop (nI j)))) I (mj_PP c d r)) := by
  refine R_seg (φ := []) (pc' := 39) (L' := [.int ((((((nI j) - ((((nI j).toUInt32 >>> ((1 : Int32).toUInt32 &&& Int32.toUInt32 31)).toInt32) &&& 1431655765)) &&& 858993459) + (((((nI j) - ((((nI j).toUInt32 >>> ((1 : Int32).toUInt32 &&& Int32.toUInt32 31)).toInt32) &&& 1431655765)).toUInt32 >>> ((2 : Int32).toUInt32 &&& Int32.toUInt32 31)).toInt32) &&& 858993459)) + ((((((nI j) - ((((nI j).toUInt32 >>> ((1 : Int32).toUInt32 &&& Int32.toUInt32 31)).toInt32) &&& 1431655765)) &&& 858993459) + (((((nI j) - ((((nI j).toUInt32 >>> ((1 : Int32).toUInt32 &&& Int32.toUInt32 31)).toInt32) &&& 1431655765)).toUInt32 >>> ((2 : Int32).toUInt32 &&& Int32.toUInt32 31)).toInt32) &&& 858993459)).toUInt32 >>> ((4 : Int32).toUInt32 &&& Int32.toUInt32 31)).toInt32)) &&& 252645135)]) (st' := [.int ((((((((nI j) - ((((nI j).toUInt32 >>> ((1 : Int32).toUInt32 &&& Int32.toUInt32 31)).toInt32) &&& 1431655765)) &&& 858993459) + (((((nI j) - ((((nI j).toUInt32 >>> ((1 : Int32).toUInt32 &&& Int32.toUInt32 31)).toInt32) &&& 1431655765)).toUInt32 >>> ((2 : Int32).toUInt32 &&& Int32.toUInt32 31)).toInt32) &&& 858993459)) + ((((((nI j) - ((((nI j).toUInt32 >>> ((1 : Int32).toUInt32 &&& Int32.toUInt32 31)).toInt32) &&& 1431655765)) &&& 858993459) + (((((nI j) - ((((nI j).toUInt32 >>> ((1 : Int32).toUInt32 &&& Int32.toUInt32 31)).toInt32) &&& 1431655765)).toUInt32 >>> ((2 : Int32).toUInt32 &&& Int32.toUInt32 31)).toInt32) &&& 858993459)).toUInt32 >>> ((4 : Int32).toUInt32 &&& Int32.toUInt32 31)).toInt32)) &&& 252645135).toUInt32 >>> ((8 : Int32).toUInt32 &&& Int32.toUInt32 31)).toInt32), .int ((((((nI j) - ((((nI j).toUInt32 >>> ((1 : Int32).toUInt32 &&& Int32.toUInt32 31)).toInt32) &&& 1431655765)) &&& 858993459) + (((((nI j) - ((((nI j).toUInt32 >>> ((1 : Int32).toUInt32 &&& Int32.toUInt32 31)).toInt32) &&& 1431655765)).toUInt32 >>> ((2 : Int32).toUInt32 &&& Int32.toUInt32 31)).toInt32) &&& 858993459)) + ((((((nI j) - ((((nI j).toUInt32 >>> ((1 : Int32).toUInt32 &&& Int32.toUInt32 31)).toInt32) &&& 1431655765)) &&& 858993459) + (((((nI j) - ((((nI j).toUInt32 >>> ((1 : Int32).toUInt32 &&& Int32.toUInt32 31)).toInt32) &&& 1431655765)).toUInt32 >>> ((2 : Int32).toUInt32 &&& Int32.toUInt32 31)).toInt32) &&& 858993459)).toUInt32 >>> ((4 : Int32).toUInt32 &&& Int32.toUInt32 31)).toInt32)) &&& 252645135)]) (σ' := (mj_KS N, I, mj_PP c d r)) 30 rfl trivial ?_
  refine R_seg (φ := []) (pc' := 52) (L' := [.int ((((((((nI j) - ((((nI j).toUInt32 >>> ((1 : Int32).toUInt32 &&& Int32.toUInt32 31)).toInt32) &&& 1431655765)) &&& 858993459) + (((((nI j) - ((((nI j).toUInt32 >>> ((1 : Int32).toUInt32 &&& Int32.toUInt32 31)).toInt32) &&& 1431655765)).toUInt32 >>> ((2 : Int32).toUInt32 &&& Int32.toUInt32 31)).toInt32) &&& 858993459)) + ((((((nI j) - ((((nI j).toUInt32 >>> ((1 : Int32).toUInt32 &&& Int32.toUInt32 31)).toInt32) &&& 1431655765)) &&& 858993459) + (((((nI j) - ((((nI j).toUInt32 >>> ((1 : Int32).toUInt32 &&& Int32.toUInt32 31)).toInt32) &&& 1431655765)).toUInt32 >>> ((2 : Int32).toUInt32 &&& Int32.toUInt32 31)).toInt32) &&& 858993459)).toUInt32 >>> ((4 : Int32).toUInt32 &&& Int32.toUInt32 31)).toInt32)) &&& 252645135) + ((((((((nI j) - ((((nI j).toUInt32 >>> ((1 : Int32).toUInt32 &&& Int32.toUInt32 31)).toInt32) &&& 1431655765)) &&& 858993459) + (((((nI j) - ((((nI j).toUInt32 >>> ((1 : Int32).toUInt32 &&& Int32.toUInt32 31)).toInt32) &&& 1431655765)).toUInt32 >>> ((2 : Int32).toUInt32 &&& Int32.toUInt32 31)).toInt32) &&& 858993459)) + ((((((nI j) - ((((nI j).toUInt32 >>> ((1 : Int32).toUInt32 &&& Int32.toUInt32 31)).toInt32) &&& 1431655765)) &&& 858993459) + (((((nI j) - ((((nI j).toUInt32 >>> ((1 : Int32).toUInt32 &&& Int32.toUInt32 31)).toInt32) &&& 1431655765)).toUInt32 >>> ((2 : Int32).toUInt32 &&& Int32.toUInt32 31)).toInt32) &&& 858993459)).toUInt32 >>> ((4 : Int32).toUInt32 &&& Int32.toUInt32 31)).toInt32)) &&& 252645135).toUInt32 >>> ((8 : Int32).toUInt32 &&& Int32.toUInt32 31)).toInt32)) + (((((((((nI j) - ((((nI j).toUInt32 >>> ((1 : Int32).toUInt32 &&& Int32.toUInt32 31)).toInt32) &&& 1431655765)) &&& 858993459) + (((((nI j) - ((((nI j).toUInt32 >>> ((1 : Int32).toUInt32 &&& Int32.toUInt32 31)).toInt32) &&& 1431655765)).toUInt32 >>> ((2 : Int32).toUInt32 &&& Int32.toUInt32 31)).toInt32) &&& 858993459)) + ((((((nI j) - ((((nI j).toUInt32 >>> ((1 : Int32).toUInt32 &&& Int32.toUInt32 31)).toInt32) &&& 1431655765)) &&& 858993459) + (((((nI j) - ((((nI j).toUInt32 >>> ((1 : Int32).toUInt32 &&& Int32.toUInt32 31)).toInt32) &&& 1431655765)).toUInt32 >>> ((2 : Int32).toUInt32 &&& Int32.toUInt32 31)).toInt32) &&& 858993459)).toUInt32 >>> ((4 : Int32).toUInt32 &&& Int32.toUInt32 31)).toInt32)) &&& 252645135) + ((((((((nI j) - ((((nI j).toUInt32 >>> ((1 : Int32).toUInt32 &&& Int32.toUInt32 31)).toInt32) &&& 1431655765)) &&& 858993459) + (((((nI j) - ((((nI j).toUInt32 >>> ((1 : Int32).toUInt32 &&& Int32.toUInt32 31)).toInt32) &&& 1431655765)).toUInt32 >>> ((2 : Int32).toUInt32 &&& Int32.toUInt32 31)).toInt32) &&& 858993459)) + ((((((nI j) - ((((nI j).toUInt32 >>> ((1 : Int32).toUInt32 &&& Int32.toUInt32 31)).toInt32) &&& 1431655765)) &&& 858993459) + (((((nI j) - ((((nI j).toUInt32 >>> ((1 : Int32).toUInt32 &&& Int32.toUInt32 31)).toInt32) &&& 1431655765)).toUInt32 >>> ((2 : Int32).toUInt32 &&& Int32.toUInt32 31)).toInt32) &&& 858993459)).toUInt32 >>> ((4 : Int32).toUInt32 &&& Int32.toUInt32 31)).toInt32)) &&& 252645135).toUInt32 >>> ((8 : Int32).toUInt32 &&& Int32.toUInt32 31)).toInt32)).toUInt32 >>> ((16 : Int32).toUInt32 &&& Int32.toUInt32 31)).toInt32))]) (st' := [.int (((((((((nI j) - ((((nI j).toUInt32 >>> ((1 : Int32).toUInt32 &&& Int32.toUInt32 31)).toInt32) &&& 1431655765)) &&& 858993459) + (((((nI j) - ((((nI j).toUInt32 >>> ((1 : Int32).toUInt32 &&& Int32.toUInt32 31)).toInt32) &&& 1431655765)).toUInt32 >>> ((2 : Int32).toUInt32 &&& Int32.toUInt32 31)).toInt32) &&& 858993459)) + ((((((nI j) - ((((nI j).toUInt32 >>> ((1 : Int32).toUInt32 &&& Int32.toUInt32 31)).toInt32) &&& 1431655765)) &&& 858993459) + (((((nI j) - ((((nI j).toUInt32 >>> ((1 : Int32).toUInt32 &&& Int32.toUInt32 31)).toInt32) &&& 1431655765)).toUInt32 >>> ((2 : Int32).toUInt32 &&& Int32.toUInt32 31)).toInt32) &&& 858993459)).toUInt32 >>> ((4 : Int32).toUInt32 &&& Int32.toUInt32 31)).toInt32)) &&& 252645135) + ((((((((nI j) - ((((nI j).toUInt32 >>> ((1 : Int32).toUInt32 &&& Int32.toUInt32 31)).toInt32) &&& 1431655765)) &&& 858993459) + (((((nI j) - ((((nI j).toUInt32 >>> ((1 : Int32).toUInt32 &&& Int32.toUInt32 31)).toInt32) &&& 1431655765)).toUInt32 >>> ((2 : Int32).toUInt32 &&& Int32.toUInt32 31)).toInt32) &&& 858993459)) + ((((((nI j) - ((((nI j).toUInt32 >>> ((1 : Int32).toUInt32 &&& Int32.toUInt32 31)).toInt32) &&& 1431655765)) &&& 858993459) + (((((nI j) - ((((nI j).toUInt32 >>> ((1 : Int32).toUInt32 &&& Int32.toUInt32 31)).toInt32) &&& 1431655765)).toUInt32 >>> ((2 : Int32).toUInt32 &&& Int32.toUInt32 31)).toInt32) &&& 858993459)).toUInt32 >>> ((4 : Int32).toUInt32 &&& Int32.toUInt32 31)).toInt32)) &&& 252645135).toUInt32 >>> ((8 : Int32).toUInt32 &&& Int32.toUInt32 31)).toInt32)) + (((((((((nI j) - ((((nI j).toUInt32 >>> ((1 : Int32).toUInt32 &&& Int32.toUInt32 31)).toInt32) &&& 1431655765)) &&& 858993459) + (((((nI j) - ((((nI j).toUInt32 >>> ((1 : Int32).toUInt32 &&& Int32.toUInt32 31)).toInt32) &&& 1431655765)).toUInt32 >>> ((2 : Int32).toUInt32 &&& Int32.toUInt32 31)).toInt32) &&& 858993459)) + ((((((nI j) - ((((nI j).toUInt32 >>> ((1 : Int32).toUInt32 &&& Int32.toUInt32 31)).toInt32) &&& 1431655765)) &&& 858993459) + (((((nI j) - ((((nI j).toUInt32 >>> ((1 : Int32).toUInt32 &&& Int32.toUInt32 31)).toInt32) &&& 1431655765)).toUInt32 >>> ((2 : Int32).toUInt32 &&& Int32.toUInt32 31)).toInt32) &&& 858993459)).toUInt32 >>> ((4 : Int32).toUInt32 &&& Int32.toUInt32 31)).toInt32)) &&& 252645135) + ((((((((nI j) - ((((nI j).toUInt32 >>> ((1 : Int32).toUInt32 &&& Int32.toUInt32 31)).toInt32) &&& 1431655765)) &&& 858993459) + (((((nI j) - ((((nI j).toUInt32 >>> ((1 : Int32).toUInt32 &&& Int32.toUInt32 31)).toInt32) &&& 1431655765)).toUInt32 >>> ((2 : Int32).toUInt32 &&& Int32.toUInt32 31)).toInt32) &&& 858993459)) + ((((((nI j) - ((((nI j).toUInt32 >>> ((1 : Int32).toUInt32 &&& Int32.toUInt32 31)).toInt32) &&& 1431655765)) &&& 858993459) + (((((nI j) - ((((nI j).toUInt32 >>> ((1 : Int32).toUInt32 &&& Int32.toUInt32 31)).toInt32) &&& 1431655765)).toUInt32 >>> ((2 : Int32).toUInt32 &&& Int32.toUInt32 31)).toInt32) &&& 858993459)).toUInt32 >>> ((4 : Int32).toUInt32 &&& Int32.toUInt32 31)).toInt32)) &&& 252645135).toUInt32 >>> ((8 : Int32).toUInt32 &&& Int32.toUInt32 31)).toInt32)).toUInt32 >>> ((16 : Int32).toUInt32 &&& Int32.toUInt32 31)).toInt32)) &&& 63)]) (σ' := (mj_KS N, I, mj_PP c d r)) 11 rfl trivial ?_
  exact R_ri rfl rfl (mj_leaf (by congr 2; revert j; decide +kernel) rfl)
def sp_cnt (C : Int32 → Int32) : Nat → Nat → Int32 → Int32
  | 0, _, a => a
  | k + 1, j, a => sp_cnt C k (j + 1) (a + sp_pop (C (nI j)))
set_option maxHeartbeats 4000000 in
theorem x_countCorners_l2 (l : Launch) (b base : Nat) (D : va_G) (z : mj_K × (Int32 → Int32)) (N : Nat) (I : mj_I) (c d r m : Nat) (hm : m ≤ 6) (hs : I 2 0 = nI m) (hC : ∀ j, j < m → ∃ q, q < 64 ∧ I 4 (nI j) = nI q) : ∀ (k j : Nat) (a : Int32), k = m - j → j ≤ m → mj_Rn l b base D z mj_m_X1_countCorners 4 [.ref 2, .int a, .int (nI j)] [] (mj_KS N, I, mj_PP c d r) (mj_E N (some (.int (sp_cnt (I 4) k j a / 2))) I (mj_PP c d r)) := by
  intro k
  induction k with
  | zero =>
    intro j a hk hj
    refine R_seg (φ := []) (pc' := 9) (L' := [.ref 2, .int a, .int (nI j)]) (st' := [.int (I 2 0), .int (nI j)]) (σ' := (mj_KS N, I, mj_PP c d r)) 3 rfl trivial ?_
    refine R_br (q := (nI j : Int32) < I 2 0) (t := 12) (f := 30) (rest := []) rfl (fun h1 => absurd h1 (by rw [hs]; exact nI_nlt (by omega) (by omega))) (fun h1 => ?_)
    refine R_seg (φ := [¬ (2 : Int32) = 0]) (pc' := 33) (L' := [.ref 2, .int a, .int (nI j)]) (st' := [.int (a / 2)]) (σ' := (mj_KS N, I, mj_PP c d r)) 3 rfl ⟨by decide, trivial⟩ ?_
    exact R_ri rfl rfl (mj_leaf rfl rfl)
  | succ k ih =>
    intro j a hk hj
    have hjm : j < m := by omega
    obtain ⟨q, hq, eq⟩ := hC j hjm
    have hin : mj_in (nI j) 6 := mj_in_nI (by omega) (by omega)
    have hpop := x_bitCount l b base D z N q hq I c d r
    rw [← eq] at hpop
    refine R_seg (φ := []) (pc' := 9) (L' := [.ref 2, .int a, .int (nI j)]) (st' := [.int (I 2 0), .int (nI j)]) (σ' := (mj_KS N, I, mj_PP c d r)) 3 rfl trivial ?_
    refine R_br (q := (nI j : Int32) < I 2 0) (t := 12) (f := 30) (rest := []) rfl (fun h1 => ?_) (fun h1 => absurd (by rw [hs]; exact nI_lt hjm (by omega)) h1)
    refine R_seg (φ := [mj_in (nI j) 6]) (pc' := 19) (L' := [.ref 2, .int a, .int (nI j)]) (st' := [.int (I 4 (nI j)), .int a]) (σ' := (mj_KS N, I, mj_PP c d r)) 5 rfl ⟨hin, trivial⟩ ?_
    refine R_ce (idx := 37) (mid := 157) (kind := 1) (N := N) (M' := mj_m_J6_bitCount_0f7a4) (As := [.int (I 4 (nI j))]) (rest := [.int a]) (I := I) (P := mj_PP c d r) (I' := I) (P' := mj_PP c d r) (v := some (.int (sp_pop (I 4 (nI j))))) rfl rfl rfl mj_mc157 mj_dc157 rfl rfl rfl rfl rfl rfl (hpop) ?_
    refine R_seg (φ := []) (pc' := 4) (L' := [.ref 2, .int (a + (sp_pop (I 4 (nI j)))), .int ((nI j) + 1)]) (st' := []) (σ' := (mj_KS N, I, mj_PP c d r)) 4 rfl trivial ?_
    rw [nI_1 j]
    exact ih (j + 1) _ (by omega) (by omega)
set_option maxHeartbeats 4000000 in
theorem x_countCorners_l10 (l : Launch) (b base : Nat) (D : va_G) (z : mj_K × (Int32 → Int32)) (N : Nat) (I : mj_I) (c d r m : Nat) (hm : m ≤ 6) (hs : I 10 0 = nI m) (hC : ∀ j, j < m → ∃ q, q < 64 ∧ I 12 (nI j) = nI q) : ∀ (k j : Nat) (a : Int32), k = m - j → j ≤ m → mj_Rn l b base D z mj_m_X1_countCorners 4 [.ref 10, .int a, .int (nI j)] [] (mj_KS N, I, mj_PP c d r) (mj_E N (some (.int (sp_cnt (I 12) k j a / 2))) I (mj_PP c d r)) := by
  intro k
  induction k with
  | zero =>
    intro j a hk hj
    refine R_seg (φ := []) (pc' := 9) (L' := [.ref 10, .int a, .int (nI j)]) (st' := [.int (I 10 0), .int (nI j)]) (σ' := (mj_KS N, I, mj_PP c d r)) 3 rfl trivial ?_
    refine R_br (q := (nI j : Int32) < I 10 0) (t := 12) (f := 30) (rest := []) rfl (fun h1 => absurd h1 (by rw [hs]; exact nI_nlt (by omega) (by omega))) (fun h1 => ?_)
    refine R_seg (φ := [¬ (2 : Int32) = 0]) (pc' := 33) (L' := [.ref 10, .int a, .int (nI j)]) (st' := [.int (a / 2)]) (σ' := (mj_KS N, I, mj_PP c d r)) 3 rfl ⟨by decide, trivial⟩ ?_
    exact R_ri rfl rfl (mj_leaf rfl rfl)
  | succ k ih =>
    intro j a hk hj
    have hjm : j < m := by omega
    obtain ⟨q, hq, eq⟩ := hC j hjm
    have hin : mj_in (nI j) 6 := mj_in_nI (by omega) (by omega)
    have hpop := x_bitCount l b base D z N q hq I c d r
    rw [← eq] at hpop
    refine R_seg (φ := []) (pc' := 9) (L' := [.ref 10, .int a, .int (nI j)]) (st' := [.int (I 10 0), .int (nI j)]) (σ' := (mj_KS N, I, mj_PP c d r)) 3 rfl trivial ?_
    refine R_br (q := (nI j : Int32) < I 10 0) (t := 12) (f := 30) (rest := []) rfl (fun h1 => ?_) (fun h1 => absurd (by rw [hs]; exact nI_lt hjm (by omega)) h1)
    refine R_seg (φ := [mj_in (nI j) 6]) (pc' := 19) (L' := [.ref 10, .int a, .int (nI j)]) (st' := [.int (I 12 (nI j)), .int a]) (σ' := (mj_KS N, I, mj_PP c d r)) 5 rfl ⟨hin, trivial⟩ ?_
    refine R_ce (idx := 37) (mid := 157) (kind := 1) (N := N) (M' := mj_m_J6_bitCount_0f7a4) (As := [.int (I 12 (nI j))]) (rest := [.int a]) (I := I) (P := mj_PP c d r) (I' := I) (P' := mj_PP c d r) (v := some (.int (sp_pop (I 12 (nI j))))) rfl rfl rfl mj_mc157 mj_dc157 rfl rfl rfl rfl rfl rfl (hpop) ?_
    refine R_seg (φ := []) (pc' := 4) (L' := [.ref 10, .int (a + (sp_pop (I 12 (nI j)))), .int ((nI j) + 1)]) (st' := []) (σ' := (mj_KS N, I, mj_PP c d r)) 4 rfl trivial ?_
    rw [nI_1 j]
    exact ih (j + 1) _ (by omega) (by omega)
set_option maxHeartbeats 4000000 in
theorem x_countCorners (l : Launch) (b base : Nat) (D : va_G) (z : mj_K × (Int32 → Int32)) (N : Nat) (cc : Nat) (hcc : cc = 2 ∨ cc = 10) (I : mj_I) (c d r m : Nat) (hm : m ≤ 6) (hs : I cc 0 = nI m) (hC : ∀ j, j < m → ∃ q, q < 64 ∧ I (cc + 2) (nI j) = nI q) : mj_Rn l b base D z mj_m_X1_countCorners 0 [.ref cc, mj_mk, mj_mk] [] (mj_KS N, I, mj_PP c d r) (mj_E N (some (.int (sp_cnt (I (cc + 2)) m 0 0 / 2))) I (mj_PP c d r)) := by
  rcases hcc with rfl | rfl
  · skip
    refine R_seg (φ := []) (pc' := 4) (L' := [.ref 2, .int 0, .int 0]) (st' := []) (σ' := (mj_KS N, I, mj_PP c d r)) 4 rfl trivial ?_
    exact x_countCorners_l2 l b base D z N I c d r m hm hs hC m 0 0 (by omega) (by omega)
  · skip
    refine R_seg (φ := []) (pc' := 4) (L' := [.ref 10, .int 0, .int 0]) (st' := []) (σ' := (mj_KS N, I, mj_PP c d r)) 4 rfl trivial ?_
    exact x_countCorners_l10 l b base D z N I c d r m hm hs hC m 0 0 (by omega) (by omega)
