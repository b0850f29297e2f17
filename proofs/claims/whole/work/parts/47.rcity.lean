/-! the reference: a city taken -/
theorem mj6_rw_12 (e q f : Int32) : ∀ (k j : Nat) (I : mj_I), (s_X6_rw e q f k j I).2 42 12 = I 42 12 := by
  intro k
  induction k with
  | zero =>
    intro j I
    show mj_upI I 42 13 (I 42 13 + 1) 42 12 = I 42 12
    rw [mj_upI_eq, if_neg (by decide)]
  | succ k ih =>
    intro j I
    have h1 := mj6_dg_42 e 0 3 I 12 (by decide)
    rw [s_X6_rw]
    split
    · exact h1
    · rw [ih, mj_upI_ne (by decide)]; exact h1
theorem mj6_rp_12 (e : Int32) (I : mj_I) : (s_X6_readPlant e I).2 42 12 = I 42 12 := by
  unfold s_X6_readPlant
  have key : ∀ v f : Int32, (s_X6_rw e (I 42 13) f 3 0 (mj_upI (mj_upI I 52 (I 42 13) v) 42 11 (I 42 11 + 1))).2 42 12 = I 42 12 := by
    intro v f
    rw [mj6_rw_12, mj_upI_eq, if_neg (by decide), mj_upI_ne (by decide)]
  generalize s_X6_rw e (I 42 13) = F at key ⊢
  repeat' split
  all_goals first
    | exact key _ _
    | rfl
theorem mj6_rC_ok (e : Int32) : ∀ (k j : Nat) (I : mj_I), mj6_TS e I → k = 3 - j → j ≤ 3 → I 42 13 = nI j → ¬ (s_X6_rC e k j I).1 = 0 → (2 ≤ ((s_X6_rC e k j I).2 42 12).toInt ∧ ((s_X6_rC e k j I).2 42 12).toInt ≤ 6) ∧ (1 ≤ ((s_X6_rC e k j I).2 42 13).toInt ∧ ((s_X6_rC e k j I).2 42 13).toInt ≤ 3) := by
  intro k
  induction k with
  | zero =>
    intro j I h hk hj hp
    have hv : (I 42 13).toInt = (j : Int) := by rw [hp, nI_toInt (by omega)]
    rw [s_X6_rC]
    split
    all_goals (intro _; exact ⟨h.2, by show 1 ≤ (I 42 13).toInt ∧ (I 42 13).toInt ≤ 3; omega⟩)
  | succ k ih =>
    intro j I h hk hj hp
    have hv : (I 42 13).toInt = (j : Int) := by rw [hp, nI_toInt (by omega)]
    have t1 := mj6_sg_TS (f := 44) h
    have p1 := (mj6_sg_42 e 44 I 13 (by decide)).trans hp
    rw [s_X6_rC]
    generalize s_X6_isSign e 44 I = g1 at t1 p1 ⊢
    have t2 := mj6_rp_l t1.1
    have s2 := mj6_rp_12 e g1.2
    generalize s_X6_readPlant e g1.2 = g2 at t2 s2 ⊢
    have step : ¬ g2.1 = 0 → ¬ (s_X6_rC e k (j + 1) g2.2).1 = 0 → (2 ≤ ((s_X6_rC e k (j + 1) g2.2).2 42 12).toInt ∧ ((s_X6_rC e k (j + 1) g2.2).2 42 12).toInt ≤ 6) ∧ (1 ≤ ((s_X6_rC e k (j + 1) g2.2).2 42 13).toInt ∧ ((s_X6_rC e k (j + 1) g2.2).2 42 13).toInt ≤ 3) := by
      intro hn
      exact ih (j + 1) g2.2 ⟨t2.1, by rw [s2]; exact t1.2⟩ (by omega) (by omega) (mj6_p1 t2.2 hn p1)
    have done : ¬ I 42 13 = 0 → (2 ≤ (I 42 12).toInt ∧ (I 42 12).toInt ≤ 6) ∧ (1 ≤ (I 42 13).toInt ∧ (I 42 13).toInt ≤ 3) := by
      intro h0
      have := mj_iE h0
      rw [Int32.toInt_zero] at this
      exact ⟨h.2, by omega⟩
    by_cases h0 : I 42 13 = 0
    · rw [if_pos h0]
      split
      · intro h9; exact absurd rfl h9
      · split
        · intro h9; exact absurd rfl h9
        · exact step (by assumption)
    · rw [if_neg h0]
      split
      · split
        · split
          · intro h9; exact absurd rfl h9
          · split
            · intro h9; exact absurd rfl h9
            · exact step (by assumption)
        · split
          · intro _; exact done h0
          · intro h9; exact absurd rfl h9
      · split
        · intro _; exact done h0
        · intro h9; exact absurd rfl h9
def mj6_SP (r : Int32 × mj_I) : Prop := ¬ r.1 = 0 → (2 ≤ (r.2 42 12).toInt ∧ (r.2 42 12).toInt ≤ 6) ∧ (1 ≤ (r.2 42 13).toInt ∧ (r.2 42 13).toInt ≤ 3)
theorem mj6_rB_ok (e : Int32) : ∀ (k j : Nat) (I : mj_I), mj6_TS e I → I 42 13 = 0 → mj6_SP (s_X6_rB e k j I) := by
  have h3 : ∀ I : mj_I, mj6_TS e I → I 42 13 = 0 → mj6_SP (s_X6_rC e 3 0 I) := fun I h hp => mj6_rC_ok e 3 0 I h rfl (by omega) hp
  generalize hF : s_X6_rC e 3 0 = F at h3
  intro k
  induction k with
  | zero =>
    intro j I h hp
    rw [s_X6_rB, hF]
    exact h3 I h hp
  | succ k ih =>
    intro j I h hp
    have t1 := mj6_sg_TS (f := 45) h
    have p1 := (mj6_sg_42 e 45 I 13 (by decide)).trans hp
    rw [s_X6_rB, hF]
    generalize s_X6_isSign e 45 I = g1 at t1 p1 ⊢
    have t2 := mj6_rc_l t1
    generalize s_X6_readCorner e g1.2 = g2 at t2 ⊢
    split
    · exact h3 g1.2 t1 p1
    · split
      · intro h9; exact absurd rfl h9
      · exact ih _ _ t2.1 (t2.2.trans p1)
theorem mj6_rA_ok (e : Int32) : ∀ (k j : Nat) (I : mj_I), mj6_TS e I → I 42 13 = 0 → mj6_SP (s_X6_rA e k j I) := by
  have h3 := mj6_rB_ok e 9 0
  generalize hF : s_X6_rB e 9 0 = F at h3
  intro k
  induction k with
  | zero =>
    intro j I h hp
    rw [s_X6_rA, hF]
    exact h3 I h hp
  | succ k ih =>
    intro j I h hp
    have t1 := mj6_dg_TS (f := 0) (g := 3) (mj6_TS_up (x := 51) (i := nI j) (v := 0) h (by decide))
    have p1 := (mj6_dg_42 e 0 3 (mj_upI I 51 (nI j) 0) 13 (by decide)).trans hp
    rw [s_X6_rA, hF]
    generalize s_X6_digit e 0 3 (mj_upI I 51 (nI j) 0) = g1 at t1 p1 ⊢
    split
    · split
      · intro h9; exact absurd rfl h9
      · exact ih _ _ (mj6_TS_up t1 (by decide)) p1
    · exact h3 I h hp
theorem mj6_rcy_ok {e : Int32} {I : mj_I} (h : mj6_T e I) : mj6_SP (s_X6_readCity e I) := by
  have t1 := mj6_sg_T (f := 121) (mj6_T_13 (v := 0) h)
  have p1 := mj6_sg_42 e 121 (mj_upI I 42 13 0) 13 (by decide)
  have h3 := mj6_rA_ok e 6 0
  rw [s_X6_readCity]
  generalize s_X6_rA e 6 0 = F at h3
  generalize s_X6_isSign e 121 (mj_upI I 42 13 0) = g1 at t1 p1 ⊢
  have t2 := mj6_dg_T (f := 2) (g := 6) t1
  have p2 := (mj6_dg_42 e 2 6 g1.2 13 (by decide)).trans p1
  have v2 : ¬ (s_X6_digit e 2 6 g1.2).1 = -9 → 2 ≤ (s_X6_digit e 2 6 g1.2).1.toInt ∧ (s_X6_digit e 2 6 g1.2).1.toInt ≤ 6 := fun h => mj6_dg_v h (by decide) (by decide)
  generalize s_X6_digit e 2 6 g1.2 = g2 at t2 p2 v2 ⊢
  split
  · intro h9; exact absurd rfl h9
  · split
    · intro h9; exact absurd rfl h9
    · exact h3 _ (mj6_T_12 t2 (v2 (by assumption))) p2
def s_X6_kA (m : Nat) : Nat → Nat → mj_I → mj_I
  | 0, j, I => I
  | k + 1, j, I => s_X6_kA m k (j + 1)  (mj_upI (mj_upI I 46 (nI j) (I 50 (nI j))) 47 (nI j) (I 51 (nI j)))
set_option maxHeartbeats 8000000 in
theorem x_X6_kA (l : Launch) (b base : Nat) (D : va_G) (z : mj_K × (Int32 → Int32)) (N : Nat) (m : Nat) (c d r : Nat) (Q : Option Value → mj_S → Prop) (hm : m ≤ 6) : ∀ (k j : Nat) (I : mj_I), k = m - j → 0 ≤ j → j ≤ m + 1 → (I 42 5 = nI m) → ((∀ w_1 : Value, mj_Rn l b base D z mj_m_X6_takeCity 48 [.ref 42, w_1, mj_mk] [] (mj_KS N, (s_X6_kA m k j  I), mj_PP c d r) (Q))) → mj_Rn l b base D z mj_m_X6_takeCity 10 [.ref 42, .int (nI j), mj_mk] [] (mj_KS N, I, mj_PP c d r) (Q) := by
  intro k
  induction k with
  | zero =>
    intro j I hk hlo hj hS K
    refine R_seg (φ := []) (pc' := 15) (L' := [.ref 42, .int (nI j), mj_mk]) (st' := [.int (I 42 5), .int (nI j)]) (σ' := (mj_KS N, I, mj_PP c d r)) 3 rfl trivial ?_
    refine R_br (q := (nI j : Int32) < I 42 5) (t := 18) (f := 48) (rest := []) rfl (fun h1 => absurd h1 (by rw [hS]; exact nI_nlt (by omega) (by omega))) (fun h1 => ?_)
    exact K (.int (nI j))
  | succ k ih =>
    intro j I hk hlo hj hS K
    have hjm : j < m := by omega
    have hin : mj_in (nI j) 6 := mj_in_nI (by omega) (by omega)
    refine R_seg (φ := []) (pc' := 15) (L' := [.ref 42, .int (nI j), mj_mk]) (st' := [.int (I 42 5), .int (nI j)]) (σ' := (mj_KS N, I, mj_PP c d r)) 3 rfl trivial ?_
    refine R_br (q := (nI j : Int32) < I 42 5) (t := 18) (f := 48) (rest := []) rfl (fun h1 => ?_) (fun h1 => absurd (by rw [hS]; exact nI_lt hjm (by omega)) h1)
    refine R_seg (φ := [mj_in (nI j) 6, mj_in (nI j) 6, mj_in (nI j) 6, mj_in (nI j) 6]) (pc' := 10) (L' := [.ref 42, .int ((nI j) + 1), mj_mk]) (st' := []) (σ' := (mj_KS N, (mj_upI (mj_upI I 46 (nI j) (I 50 (nI j))) 47 (nI j) (I 51 (nI j))), mj_PP c d r)) 18 rfl ⟨hin, hin, hin, hin, trivial⟩ ?_
    rw [nI_1 j]
    rw [show s_X6_kA m (k + 1) j  I = s_X6_kA m k (j + 1)  (mj_upI (mj_upI I 46 (nI j) (I 50 (nI j))) 47 (nI j) (I 51 (nI j))) from by simp only [s_X6_kA, Bool.false_eq_true, ↓reduceIte, Nat.reduceAdd, Nat.reduceMul, mj_tn0, mj_tn1, mj_tn2, mj_tn3]] at K
    exact ih (j + 1)  (mj_upI (mj_upI I 46 (nI j) (I 50 (nI j))) 47 (nI j) (I 51 (nI j))) (by omega) (by omega) (by omega) (hS) K
def s_X6_kC (y : Nat) : Nat → Nat → mj_I → mj_I
  | 0, j, I => I
  | k + 1, j, I => s_X6_kC y k (j + 1)  (mj_upI I 49 ((3 * (nI y)) + (nI j)) (I 53 ((3 * (nI y)) + (nI j))))
set_option maxHeartbeats 8000000 in
theorem x_X6_kC (l : Launch) (b base : Nat) (D : va_G) (z : mj_K × (Int32 → Int32)) (N : Nat) (y : Nat) (c d r : Nat) (Q : Option Value → mj_S → Prop) (hy : mj_in (nI y) 3) : ∀ (k j : Nat) (I : mj_I), k = 3 - j → 0 ≤ j → j ≤ 3 + 1 → ((∀ w_2 : Value, mj_Rn l b base D z mj_m_X6_takeCity 111 [.ref 42, .int (nI y), w_2] [] (mj_KS N, (s_X6_kC y k j  I), mj_PP c d r) (Q))) → mj_Rn l b base D z mj_m_X6_takeCity 80 [.ref 42, .int (nI y), .int (nI j)] [] (mj_KS N, I, mj_PP c d r) (Q) := by
  intro k
  induction k with
  | zero =>
    intro j I hk hlo hj K
    refine R_seg (φ := []) (pc' := 82) (L' := [.ref 42, .int (nI y), .int (nI j)]) (st' := [.int 3, .int (nI j)]) (σ' := (mj_KS N, I, mj_PP c d r)) 2 rfl trivial ?_
    refine R_br (q := (nI j : Int32) < 3) (t := 85) (f := 111) (rest := []) rfl (fun h1 => absurd h1 (show ¬ nI j < nI 3 from nI_nlt (by omega) (by omega))) (fun h1 => ?_)
    exact K (.int (nI j))
  | succ k ih =>
    intro j I hk hlo hj K
    have hjm : j < 3 := by omega
    have hin := mj6_w3 hy (mj_in_nI (n := 3) hjm (by decide))
    refine R_seg (φ := []) (pc' := 82) (L' := [.ref 42, .int (nI y), .int (nI j)]) (st' := [.int 3, .int (nI j)]) (σ' := (mj_KS N, I, mj_PP c d r)) 2 rfl trivial ?_
    refine R_br (q := (nI j : Int32) < 3) (t := 85) (f := 111) (rest := []) rfl (fun h1 => ?_) (fun h1 => absurd (show nI j < nI 3 from nI_lt hjm (by omega)) h1)
    refine R_seg (φ := [mj_in ((3 * (nI y)) + (nI j)) 9, mj_in ((3 * (nI y)) + (nI j)) 9]) (pc' := 80) (L' := [.ref 42, .int (nI y), .int ((nI j) + 1)]) (st' := []) (σ' := (mj_KS N, (mj_upI I 49 ((3 * (nI y)) + (nI j)) (I 53 ((3 * (nI y)) + (nI j)))), mj_PP c d r)) 18 rfl ⟨hin, hin, trivial⟩ ?_
    rw [nI_1 j]
    rw [show s_X6_kC y (k + 1) j  I = s_X6_kC y k (j + 1)  (mj_upI I 49 ((3 * (nI y)) + (nI j)) (I 53 ((3 * (nI y)) + (nI j)))) from by simp only [s_X6_kC, Bool.false_eq_true, ↓reduceIte, Nat.reduceAdd, Nat.reduceMul, mj_tn0, mj_tn1, mj_tn2, mj_tn3]] at K
    exact ih (j + 1)  (mj_upI I 49 ((3 * (nI y)) + (nI j)) (I 53 ((3 * (nI y)) + (nI j)))) (by omega) (by omega) (by omega) K
theorem mj6_kA_ne (m x : Nat) (h1 : x ≠ 46) (h2 : x ≠ 47) : ∀ (k j : Nat) (I : mj_I), s_X6_kA m k j I x = I x := by
  intro k
  induction k with
  | zero => intro j I; rfl
  | succ k ih => intro j I; rw [s_X6_kA, ih, mj_upI_ne h2, mj_upI_ne h1]
theorem mj6_kC_ne (y x : Nat) (h1 : x ≠ 49) : ∀ (k j : Nat) (I : mj_I), s_X6_kC y k j I x = I x := by
  intro k
  induction k with
  | zero => intro j I; rfl
  | succ k ih => intro j I; rw [s_X6_kC, ih, mj_upI_ne h1]
def s_X6_kB (p : Nat) : Nat → Nat → mj_I → mj_I
  | 0, j, I => (mj_upI (mj_upI I 42 25 0) 42 23 0)
  | k + 1, j, I => s_X6_kB p k (j + 1)  (s_X6_kC j 3 0  (mj_upI I 48 (nI j) (I 52 (nI j))))
set_option maxHeartbeats 8000000 in
theorem x_X6_kB (l : Launch) (b base : Nat) (D : va_G) (z : mj_K × (Int32 → Int32)) (N : Nat) (p : Nat) (c d r : Nat) (hp3 : p ≤ 3) : ∀ (k j : Nat) (w2 : Value) (I : mj_I), k = p - j → 0 ≤ j → j ≤ p + 1 → (I 42 6 = nI p) → mj_Rn l b base D z mj_m_X6_takeCity 58 [.ref 42, .int (nI j), w2] [] (mj_KS N, I, mj_PP c d r) (mj_E N none (s_X6_kB p k j  I) (mj_PP c d r)) := by
  intro k
  induction k with
  | zero =>
    intro j w2 I hk hlo hj hp
    refine R_seg (φ := []) (pc' := 63) (L' := [.ref 42, .int (nI j), w2]) (st' := [.int (I 42 6), .int (nI j)]) (σ' := (mj_KS N, I, mj_PP c d r)) 3 rfl trivial ?_
    refine R_br (q := (nI j : Int32) < I 42 6) (t := 66) (f := 117) (rest := []) rfl (fun h1 => absurd h1 (by rw [hp]; exact nI_nlt (by omega) (by omega))) (fun h1 => ?_)
    refine R_seg (φ := [(0 : Int32) = 0 ∨ (0 : Int32) = 1]) (pc' := 127) (L' := [.ref 42, .int (nI j), w2]) (st' := []) (σ' := (mj_KS N, (mj_upI (mj_upI I 42 25 0) 42 23 0), mj_PP c d r)) 6 rfl ⟨Or.inl rfl, trivial⟩ ?_
    exact R_rv rfl rfl (mj_leaf (by simp only [s_X6_kB, Bool.false_eq_true, ↓reduceIte, Nat.reduceAdd, Nat.reduceMul, mj_tn0, mj_tn1, mj_tn2, mj_tn3]) (by simp only [s_X6_kB, Bool.false_eq_true, ↓reduceIte, Nat.reduceAdd, Nat.reduceMul, mj_tn0, mj_tn1, mj_tn2, mj_tn3]))
  | succ k ih =>
    intro j w2 I hk hlo hj hp
    have hjm : j < p := by omega
    have hin3 := mj6_in3 hjm hp3
    refine R_seg (φ := []) (pc' := 63) (L' := [.ref 42, .int (nI j), w2]) (st' := [.int (I 42 6), .int (nI j)]) (σ' := (mj_KS N, I, mj_PP c d r)) 3 rfl trivial ?_
    refine R_br (q := (nI j : Int32) < I 42 6) (t := 66) (f := 117) (rest := []) rfl (fun h1 => ?_) (fun h1 => absurd (by rw [hp]; exact nI_lt hjm (by omega)) h1)
    refine R_seg (φ := [mj_in (nI j) 3, mj_in (nI j) 3]) (pc' := 80) (L' := [.ref 42, .int (nI j), .int 0]) (st' := []) (σ' := (mj_KS N, (mj_upI I 48 (nI j) (I 52 (nI j))), mj_PP c d r)) 10 rfl ⟨hin3, hin3, trivial⟩ ?_
    refine x_X6_kC l b base D z N j c d r _ (mj6_in3 hjm hp3) 3 0  (mj_upI I 48 (nI j) (I 52 (nI j))) (by omega) (by omega) (by omega) ?_
    intro w_2
    refine R_seg (φ := []) (pc' := 58) (L' := [.ref 42, .int ((nI j) + 1), w_2]) (st' := []) (σ' := (mj_KS N, (s_X6_kC j 3 0  (mj_upI I 48 (nI j) (I 52 (nI j)))), mj_PP c d r)) 2 rfl trivial ?_
    rw [nI_1 j]
    rw [show s_X6_kB p (k + 1) j  I = s_X6_kB p k (j + 1)  (s_X6_kC j 3 0  (mj_upI I 48 (nI j) (I 52 (nI j)))) from by simp only [s_X6_kB, Bool.false_eq_true, ↓reduceIte, Nat.reduceAdd, Nat.reduceMul, mj_tn0, mj_tn1, mj_tn2, mj_tn3]]
    exact ih (j + 1)  w_2 (s_X6_kC j 3 0  (mj_upI I 48 (nI j) (I 52 (nI j)))) (by omega) (by omega) (by omega) ((congrFun (mj6_kC_ne _ _ (by decide) _ _ _) _).trans hp)
def s_X6_takeCity (m : Nat) (p : Nat) (I : mj_I) : mj_I := s_X6_kB p p 0  (mj_upI (s_X6_kA m m 0  (mj_upI I 42 5 (I 42 12))) 42 6 ((s_X6_kA m m 0  (mj_upI I 42 5 (I 42 12))) 42 13))
set_option maxHeartbeats 8000000 in
theorem x_X6_takeCity (l : Launch) (b base : Nat) (D : va_G) (z : mj_K × (Int32 → Int32)) (N : Nat) (m : Nat) (p : Nat) (I : mj_I) (c d r : Nat) (hm : m ≤ 6) (hS : I 42 12 = nI m) (hp3 : p ≤ 3) (hp : I 42 13 = nI p) : mj_Rn l b base D z mj_m_X6_takeCity 0 [.ref 42, mj_mk, mj_mk] [] (mj_KS N, I, mj_PP c d r) (mj_E N none (s_X6_takeCity m p I) (mj_PP c d r)) := by
  refine R_seg (φ := []) (pc' := 10) (L' := [.ref 42, .int 0, mj_mk]) (st' := []) (σ' := (mj_KS N, (mj_upI I 42 5 (I 42 12)), mj_PP c d r)) 6 rfl trivial ?_
  refine x_X6_kA l b base D z N m c d r _ hm m 0  (mj_upI I 42 5 (I 42 12)) (by omega) (by omega) (by omega) hS ?_
  intro w_1
  refine R_seg (φ := []) (pc' := 58) (L' := [.ref 42, .int 0, mj_mk]) (st' := []) (σ' := (mj_KS N, (mj_upI (s_X6_kA m m 0  (mj_upI I 42 5 (I 42 12))) 42 6 ((s_X6_kA m m 0  (mj_upI I 42 5 (I 42 12))) 42 13)), mj_PP c d r)) 6 rfl trivial ?_
  exact x_X6_kB l b base D z N p c d r hp3 p 0  mj_mk (mj_upI (s_X6_kA m m 0  (mj_upI I 42 5 (I 42 12))) 42 6 ((s_X6_kA m m 0  (mj_upI I 42 5 (I 42 12))) 42 13)) (by omega) (by omega) (by omega) ((congrFun (mj6_kA_ne _ _ (by decide) (by decide) _ _ _) _).trans hp)
theorem mj6_cyT {u a i n : Int32} {I I' : mj_I} (hu : mj_in u 4) (h : s_X6_against u a i n I = 0) (hl : 0 ≤ (I 44 u).toInt ∧ (I 44 u).toInt ≤ 60) (hat : I' 42 11 = 60 * u + i) : mj6_T (60 * u + i + n) I' := by
  have a := mj6_ag0 h hl
  have b := mj_inb hu
  have e := mj_t60m u hu
  have e2 : (60 * u + i).toInt = 60 * u.toInt + i.toInt := by rw [mj_iadd (by omega) (by omega), e]
  have e3 : (60 * u + i + n).toInt = 60 * u.toInt + i.toInt + n.toInt := by rw [mj_iadd (by omega) (by omega), e2]
  refine ⟨by rw [hat]; omega, by omega⟩
theorem mj6_cn {x : Int32} (h : 0 ≤ x.toInt) : x = nI x.toNatClampNeg := (mj_clamp h).symm
theorem mj6_cm {x : Int32} {n : Nat} (h : x.toInt ≤ (n : Int)) : x.toNatClampNeg ≤ n := by
  show x.toInt.toNat ≤ n
  omega
def s_X6_city (u : Int32) (a : Int32) (i : Int32) (n : Int32) (I : mj_I) : Int32 × mj_I := if ((s_X6_isSheet u (mj_upI I 42 0 0)) : Int32) = 0 then ((-1), (mj_upI I 42 0 0)) else (if ((s_X6_isSort a (mj_upI I 42 0 0)) : Int32) = 0 then ((-2), (mj_upI I 42 0 0)) else (if ((s_X6_against u a i n (mj_upI I 42 0 0)) : Int32) = 0 then (if (((s_X6_readCity (((60 * u) + i) + n) (mj_upI (mj_upI I 42 0 0) 42 11 ((60 * u) + i))).1) : Int32) = 0 then ((-100) - (((((s_X6_readCity (((60 * u) + i) + n) (mj_upI (mj_upI I 42 0 0) 42 11 ((60 * u) + i))).2)) 42 11) - ((60 * u) + i)), ((s_X6_readCity (((60 * u) + i) + n) (mj_upI (mj_upI I 42 0 0) 42 11 ((60 * u) + i))).2)) else ((s_X6_takeCity ((((s_X6_readCity (((60 * u) + i) + n) (mj_upI (mj_upI I 42 0 0) 42 11 ((60 * u) + i))).2) 42 12).toNatClampNeg) ((((s_X6_readCity (((60 * u) + i) + n) (mj_upI (mj_upI I 42 0 0) 42 11 ((60 * u) + i))).2) 42 13).toNatClampNeg) (((s_X6_readCity (((60 * u) + i) + n) (mj_upI (mj_upI I 42 0 0) 42 11 ((60 * u) + i))).2))) 42 6, (s_X6_takeCity ((((s_X6_readCity (((60 * u) + i) + n) (mj_upI (mj_upI I 42 0 0) 42 11 ((60 * u) + i))).2) 42 12).toNatClampNeg) ((((s_X6_readCity (((60 * u) + i) + n) (mj_upI (mj_upI I 42 0 0) 42 11 ((60 * u) + i))).2) 42 13).toNatClampNeg) (((s_X6_readCity (((60 * u) + i) + n) (mj_upI (mj_upI I 42 0 0) 42 11 ((60 * u) + i))).2))))) else ((s_X6_fails (s_X6_against u a i n (mj_upI I 42 0 0)) (mj_upI I 42 0 0)).1, (s_X6_fails (s_X6_against u a i n (mj_upI I 42 0 0)) (mj_upI I 42 0 0)).2)))
set_option maxHeartbeats 8000000 in
theorem x_X6_city (l : Launch) (b base : Nat) (D : va_G) (z : mj_K × (Int32 → Int32)) (N : Nat) (u : Int32) (a : Int32) (i : Int32) (n : Int32) (I : mj_I) (c d r : Nat) (hL : ∀ k, mj_in k 4 → 0 ≤ (I 44 k).toInt ∧ (I 44 k).toInt ≤ 60) : mj_Rn l b base D z mj_m_X6_city 0 [.ref 42, .int u, .int a, .int i, .int n, mj_mk, mj_mk] [] (mj_KS N, I, mj_PP c d r) (mj_E N (some (.int (s_X6_city u a i n I).1)) (s_X6_city u a i n I).2 (mj_PP c d r)) := by
  refine R_seg (φ := []) (pc' := 6) (L' := [.ref 42, .int u, .int a, .int i, .int n, mj_mk, mj_mk]) (st' := [.int u]) (σ' := (mj_KS N, (mj_upI I 42 0 0), mj_PP c d r)) 4 rfl trivial ?_
  refine R_ce (idx := 89) (mid := 96) (kind := 1) (N := N) (M' := mj_m_X6_isSheet) (As := [.int u]) (rest := []) (I := (mj_upI I 42 0 0)) (P := mj_PP c d r) (I' := (mj_upI I 42 0 0)) (P' := mj_PP c d r) (v := some (.int (s_X6_isSheet u (mj_upI I 42 0 0)))) rfl rfl rfl mj_mc96 mj_dc96 rfl rfl rfl rfl rfl rfl (x_X6_isSheet l b base D z N u (mj_upI I 42 0 0) c d r) ?_
  refine R_seg (φ := []) (pc' := 9) (L' := [.ref 42, .int u, .int a, .int i, .int n, mj_mk, mj_mk]) (st' := [.int (s_X6_isSheet u (mj_upI I 42 0 0))]) (σ' := (mj_KS N, (mj_upI I 42 0 0), mj_PP c d r)) 0 rfl trivial ?_
  refine R_br (q := ((s_X6_isSheet u (mj_upI I 42 0 0)) : Int32) = 0) (t := 12) (f := 14) (rest := []) rfl (fun h1 => ?_) (fun h1 => ?_)
  · skip
    refine R_seg (φ := []) (pc' := 13) (L' := [.ref 42, .int u, .int a, .int i, .int n, mj_mk, mj_mk]) (st' := [.int (-1)]) (σ' := (mj_KS N, (mj_upI I 42 0 0), mj_PP c d r)) 1 rfl trivial ?_
    exact R_ri rfl rfl (mj_leaf (by simp only [s_X6_city, if_pos h1, Bool.false_eq_true, ↓reduceIte, Nat.reduceAdd, Nat.reduceMul, mj_tn0, mj_tn1, mj_tn2, mj_tn3]) (by simp only [s_X6_city, if_pos h1, Bool.false_eq_true, ↓reduceIte, Nat.reduceAdd, Nat.reduceMul, mj_tn0, mj_tn1, mj_tn2, mj_tn3]))
  · skip
    refine R_seg (φ := []) (pc' := 15) (L' := [.ref 42, .int u, .int a, .int i, .int n, mj_mk, mj_mk]) (st' := [.int a]) (σ' := (mj_KS N, (mj_upI I 42 0 0), mj_PP c d r)) 1 rfl trivial ?_
    refine R_ce (idx := 93) (mid := 97) (kind := 1) (N := N) (M' := mj_m_X6_isSort) (As := [.int a]) (rest := []) (I := (mj_upI I 42 0 0)) (P := mj_PP c d r) (I' := (mj_upI I 42 0 0)) (P' := mj_PP c d r) (v := some (.int (s_X6_isSort a (mj_upI I 42 0 0)))) rfl rfl rfl mj_mc97 mj_dc97 rfl rfl rfl rfl rfl rfl (x_X6_isSort l b base D z N a (mj_upI I 42 0 0) c d r) ?_
    refine R_seg (φ := []) (pc' := 18) (L' := [.ref 42, .int u, .int a, .int i, .int n, mj_mk, mj_mk]) (st' := [.int (s_X6_isSort a (mj_upI I 42 0 0))]) (σ' := (mj_KS N, (mj_upI I 42 0 0), mj_PP c d r)) 0 rfl trivial ?_
    refine R_br (q := ((s_X6_isSort a (mj_upI I 42 0 0)) : Int32) = 0) (t := 21) (f := 24) (rest := []) rfl (fun h2 => ?_) (fun h2 => ?_)
    · skip
      refine R_seg (φ := []) (pc' := 23) (L' := [.ref 42, .int u, .int a, .int i, .int n, mj_mk, mj_mk]) (st' := [.int (-2)]) (σ' := (mj_KS N, (mj_upI I 42 0 0), mj_PP c d r)) 1 rfl trivial ?_
      exact R_ri rfl rfl (mj_leaf (by simp only [s_X6_city, if_neg h1, if_pos h2, Bool.false_eq_true, ↓reduceIte, Nat.reduceAdd, Nat.reduceMul, mj_tn0, mj_tn1, mj_tn2, mj_tn3]) (by simp only [s_X6_city, if_neg h1, if_pos h2, Bool.false_eq_true, ↓reduceIte, Nat.reduceAdd, Nat.reduceMul, mj_tn0, mj_tn1, mj_tn2, mj_tn3]))
    · skip
      refine R_seg (φ := []) (pc' := 30) (L' := [.ref 42, .int u, .int a, .int i, .int n, mj_mk, mj_mk]) (st' := [.int n, .int i, .int a, .int u, .ref 42]) (σ' := (mj_KS N, (mj_upI I 42 0 0), mj_PP c d r)) 5 rfl trivial ?_
      refine R_ce (idx := 96) (mid := 98) (kind := 0) (N := N) (M' := mj_m_X6_against) (As := [.ref 42, .int u, .int a, .int i, .int n]) (rest := []) (I := (mj_upI I 42 0 0)) (P := mj_PP c d r) (I' := (mj_upI I 42 0 0)) (P' := mj_PP c d r) (v := some (.int (s_X6_against u a i n (mj_upI I 42 0 0)))) rfl rfl rfl mj_mc98 mj_dc98 rfl rfl rfl rfl rfl rfl (x_X6_against l b base D z N u a i n (mj_upI I 42 0 0) c d r (mj6_sh h1)) ?_
      refine R_seg (φ := []) (pc' := 37) (L' := [.ref 42, .int u, .int a, .int i, .int n, .int (s_X6_against u a i n (mj_upI I 42 0 0)), mj_mk]) (st' := [.int (s_X6_against u a i n (mj_upI I 42 0 0))]) (σ' := (mj_KS N, (mj_upI I 42 0 0), mj_PP c d r)) 2 rfl trivial ?_
      refine R_br (q := ((s_X6_against u a i n (mj_upI I 42 0 0)) : Int32) = 0) (t := 47) (f := 40) (rest := []) rfl (fun h3 => ?_) (fun h3 => ?_)
      · skip
        refine R_seg (φ := []) (pc' := 67) (L' := [.ref 42, .int u, .int a, .int i, .int n, .int (s_X6_against u a i n (mj_upI I 42 0 0)), .int ((60 * u) + i)]) (st' := [.int (((60 * u) + i) + n), .ref 42]) (σ' := (mj_KS N, (mj_upI (mj_upI I 42 0 0) 42 11 ((60 * u) + i)), mj_PP c d r)) 13 rfl trivial ?_
        refine R_ce (idx := 104) (mid := 106) (kind := 0) (N := N) (M' := mj_m_X6_readCity) (As := [.ref 42, .int (((60 * u) + i) + n)]) (rest := []) (I := (mj_upI (mj_upI I 42 0 0) 42 11 ((60 * u) + i))) (P := mj_PP c d r) (I' := (s_X6_readCity (((60 * u) + i) + n) (mj_upI (mj_upI I 42 0 0) 42 11 ((60 * u) + i))).2) (P' := mj_PP c d r) (v := some (.int ((s_X6_readCity (((60 * u) + i) + n) (mj_upI (mj_upI I 42 0 0) 42 11 ((60 * u) + i))).1))) rfl rfl rfl mj_mc106 mj_dc106 rfl rfl rfl rfl rfl rfl (x_X6_readCity l b base D z N (((60 * u) + i) + n)  (mj_upI (mj_upI I 42 0 0) 42 11 ((60 * u) + i)) c d r (mj6_cyT (mj6_sh h1) h3 (hL _ (mj6_sh h1)) rfl)) ?_
        have t1 : mj6_SP ((s_X6_readCity (((60 * u) + i) + n) (mj_upI (mj_upI I 42 0 0) 42 11 ((60 * u) + i)))) := mj6_rcy_ok (mj6_cyT (mj6_sh h1) h3 (hL _ (mj6_sh h1)) rfl)
        generalize hg1 : (s_X6_readCity (((60 * u) + i) + n) (mj_upI (mj_upI I 42 0 0) 42 11 ((60 * u) + i))) = g1 at t1 ⊢
        refine R_seg (φ := []) (pc' := 70) (L' := [.ref 42, .int u, .int a, .int i, .int n, .int (s_X6_against u a i n (mj_upI I 42 0 0)), .int ((60 * u) + i)]) (st' := [.int (g1.1)]) (σ' := (mj_KS N, g1.2, mj_PP c d r)) 0 rfl trivial ?_
        refine R_br (q := (g1.1 : Int32) = 0) (t := 73) (f := 84) (rest := []) rfl (fun h4 => ?_) (fun h4 => ?_)
        · skip
          refine R_seg (φ := []) (pc' := 83) (L' := [.ref 42, .int u, .int a, .int i, .int n, .int (s_X6_against u a i n (mj_upI I 42 0 0)), .int ((60 * u) + i)]) (st' := [.int ((-100) - (((g1.2) 42 11) - ((60 * u) + i)))]) (σ' := (mj_KS N, g1.2, mj_PP c d r)) 6 rfl trivial ?_
          exact R_ri rfl rfl (mj_leaf (by simp only [s_X6_city, hg1, if_neg h1, if_neg h2, if_pos h3, if_pos h4, Bool.false_eq_true, ↓reduceIte, Nat.reduceAdd, Nat.reduceMul, mj_tn0, mj_tn1, mj_tn2, mj_tn3]) (by simp only [s_X6_city, hg1, if_neg h1, if_neg h2, if_pos h3, if_pos h4, Bool.false_eq_true, ↓reduceIte, Nat.reduceAdd, Nat.reduceMul, mj_tn0, mj_tn1, mj_tn2, mj_tn3]))
        · skip
          refine R_seg (φ := []) (pc' := 85) (L' := [.ref 42, .int u, .int a, .int i, .int n, .int (s_X6_against u a i n (mj_upI I 42 0 0)), .int ((60 * u) + i)]) (st' := [.ref 42]) (σ' := (mj_KS N, g1.2, mj_PP c d r)) 1 rfl trivial ?_
          refine R_ce (idx := 107) (mid := 105) (kind := 0) (N := N) (M' := mj_m_X6_takeCity) (As := [.ref 42]) (rest := []) (I := g1.2) (P := mj_PP c d r) (I' := (s_X6_takeCity (g1.2 42 12).toNatClampNeg (g1.2 42 13).toNatClampNeg (g1.2))) (P' := mj_PP c d r) (v := none) rfl rfl rfl mj_mc105 mj_dc105 rfl rfl rfl rfl rfl rfl (x_X6_takeCity l b base D z N (g1.2 42 12).toNatClampNeg (g1.2 42 13).toNatClampNeg  (g1.2) c d r (mj6_cm (t1 h4).1.2) (mj6_cn (by have := (t1 h4).1; omega)) (mj6_cm (t1 h4).2.2) (mj6_cn (by have := (t1 h4).2; omega))) ?_
          refine R_seg (φ := []) (pc' := 92) (L' := [.ref 42, .int u, .int a, .int i, .int n, .int (s_X6_against u a i n (mj_upI I 42 0 0)), .int ((60 * u) + i)]) (st' := [.int ((s_X6_takeCity (g1.2 42 12).toNatClampNeg (g1.2 42 13).toNatClampNeg (g1.2)) 42 6)]) (σ' := (mj_KS N, (s_X6_takeCity (g1.2 42 12).toNatClampNeg (g1.2 42 13).toNatClampNeg (g1.2)), mj_PP c d r)) 2 rfl trivial ?_
          exact R_ri rfl rfl (mj_leaf (by simp only [s_X6_city, hg1, if_neg h1, if_neg h2, if_pos h3, if_neg h4, Bool.false_eq_true, ↓reduceIte, Nat.reduceAdd, Nat.reduceMul, mj_tn0, mj_tn1, mj_tn2, mj_tn3]) (by simp only [s_X6_city, hg1, if_neg h1, if_neg h2, if_pos h3, if_neg h4, Bool.false_eq_true, ↓reduceIte, Nat.reduceAdd, Nat.reduceMul, mj_tn0, mj_tn1, mj_tn2, mj_tn3]))
      · skip
        refine R_seg (φ := []) (pc' := 43) (L' := [.ref 42, .int u, .int a, .int i, .int n, .int (s_X6_against u a i n (mj_upI I 42 0 0)), mj_mk]) (st' := [.int (s_X6_against u a i n (mj_upI I 42 0 0)), .ref 42]) (σ' := (mj_KS N, (mj_upI I 42 0 0), mj_PP c d r)) 2 rfl trivial ?_
        refine R_ce (idx := 100) (mid := 93) (kind := 0) (N := N) (M' := mj_m_X6_fails) (As := [.ref 42, .int (s_X6_against u a i n (mj_upI I 42 0 0))]) (rest := []) (I := (mj_upI I 42 0 0)) (P := mj_PP c d r) (I' := (s_X6_fails (s_X6_against u a i n (mj_upI I 42 0 0)) (mj_upI I 42 0 0)).2) (P' := mj_PP c d r) (v := some (.int ((s_X6_fails (s_X6_against u a i n (mj_upI I 42 0 0)) (mj_upI I 42 0 0)).1))) rfl rfl rfl mj_mc93 mj_dc93 rfl rfl rfl rfl rfl rfl (x_X6_fails l b base D z N (s_X6_against u a i n (mj_upI I 42 0 0)) (mj_upI I 42 0 0) c d r) ?_
        refine R_seg (φ := []) (pc' := 46) (L' := [.ref 42, .int u, .int a, .int i, .int n, .int (s_X6_against u a i n (mj_upI I 42 0 0)), mj_mk]) (st' := [.int ((s_X6_fails (s_X6_against u a i n (mj_upI I 42 0 0)) (mj_upI I 42 0 0)).1)]) (σ' := (mj_KS N, (s_X6_fails (s_X6_against u a i n (mj_upI I 42 0 0)) (mj_upI I 42 0 0)).2, mj_PP c d r)) 0 rfl trivial ?_
        exact R_ri rfl rfl (mj_leaf (by simp only [s_X6_city, if_neg h1, if_neg h2, if_neg h3, Bool.false_eq_true, ↓reduceIte, Nat.reduceAdd, Nat.reduceMul, mj_tn0, mj_tn1, mj_tn2, mj_tn3]) (by simp only [s_X6_city, if_neg h1, if_neg h2, if_neg h3, Bool.false_eq_true, ↓reduceIte, Nat.reduceAdd, Nat.reduceMul, mj_tn0, mj_tn1, mj_tn2, mj_tn3]))
