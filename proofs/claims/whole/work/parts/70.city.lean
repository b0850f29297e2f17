/-! a city put in the place of another -/
theorem rq_ag2 {k : Nat} {A B : mj_I} (h : mj_rH1 k A B) (a i n : Int32) : s_X6_against (nI k) a i n B = sp_fot (A (34 + 2 * k) 0) (A (34 + 2 * k) 1) (A (34 + 2 * k) 2) a i n := by
  obtain ⟨⟨l0, l1⟩, h44, hl, _⟩ := h
  unfold s_X6_against sp_fot
  rw [h44]
  rcases hl with ⟨h1, h2⟩ | ⟨h1, h2, h3⟩
  · rw [if_pos h2, if_pos h1]
  · rw [if_neg (show ¬ B 43 (nI k) = -9 by rw [h2]; exact rq_n9 h3), if_neg (show ¬ A (34 + 2 * k) 0 = 0 by rw [h1]; exact rq_n10), h2]
    by_cases ha : A (34 + 2 * k) 1 = a
    · rw [if_pos ha, if_pos ha]
      by_cases hn : n < 0
      · rw [if_pos hn, if_pos hn]
      · rw [if_neg hn, if_neg hn]
        have n0 := mj_i0 hn
        have n1 := n.toInt_lt
        unfold sp_hc
        generalize A (34 + 2 * k) 2 = L at *
        by_cases hi : i < 0
        · rw [if_pos hi, if_pos hi]; rfl
        · rw [if_neg hi, if_neg hi]
          have i0 := mj_i0 hi
          have e2 : (L - n).toInt = L.toInt - n.toInt := mj_isub (by omega) (by omega)
          by_cases h4 : L < i
          · have := mj_iL h4
            rw [if_pos h4, if_pos (show L - n < i from Int32.lt_iff_toInt_lt.mpr (by omega))]; rfl
          · have := mj_iN h4
            have e3 : (L - i).toInt = L.toInt - i.toInt := mj_isub (by omega) (by omega)
            rw [if_neg h4]
            by_cases h5 : L - i < n
            · have := mj_iL h5
              rw [if_pos h5, if_pos (show L - n < i from Int32.lt_iff_toInt_lt.mpr (by omega))]; rfl
            · have := mj_iN h5
              rw [if_neg h5, if_neg (show ¬ L - n < i from fun hh => by have := mj_iL hh; omega)]; rfl
    · rw [if_neg ha, if_neg ha]
theorem rq_fot2 {k : Nat} {A B : mj_I} (h : mj_rH1 k A B) {a i n : Int32} (h0 : sp_fot (A (34 + 2 * k) 0) (A (34 + 2 * k) 1) (A (34 + 2 * k) 2) a i n = 0) : ∃ x y, x + y ≤ 60 ∧ i = nI x ∧ n = nI y := by
  obtain ⟨⟨l0, l1⟩, _, _, _⟩ := h
  have n1 := n.toInt_lt
  unfold sp_fot sp_hc at h0
  generalize A (34 + 2 * k) 2 = L at *
  split at h0
  · exact absurd h0 (by decide)
  · split at h0
    · split at h0
      · exact absurd h0 (by decide)
      · rename_i hn
        have n0 := mj_i0 hn
        have e2 : (L - n).toInt = L.toInt - n.toInt := mj_isub (by omega) (by omega)
        by_cases hi : i < 0
        · rw [if_pos hi] at h0; exact absurd h0 (by decide)
        · have i0 := mj_i0 hi
          rw [if_neg hi] at h0
          by_cases h5 : L - n < i
          · rw [if_pos h5] at h0; exact absurd h0 (by decide)
          · have := mj_iN h5
            exact ⟨i.toInt.toNat, n.toInt.toNat, by omega, mj_ofI (by rw [nI_toInt (by omega)]; omega), mj_ofI (by rw [nI_toInt (by omega)]; omega)⟩
    · exact absurd h0 (by decide)
theorem rq_RL_dd {cc dd m p R : Nat} {A A' B B' : mj_I} (hcc : (cc = 2 ∧ dd = 10) ∨ (cc = 10 ∧ dd = 2)) (h : mj_RL cc m p R A B) (hA : ∀ x, x ≠ 18 → x ≠ 1 → (x < dd ∨ dd + 7 < x) → A' x = A x) (hA1 : A' 1 11 = A 1 11 ∧ A' 1 12 = A 1 12) (hB : ∀ x, (43 ≤ x ∧ x ≤ 49) ∨ x = 57 ∨ x = 59 ∨ x = 60 → B' x = B x)
    (hB1 : B' 42 1 = B 42 1 ∧ B' 42 5 = B 42 5 ∧ B' 42 6 = B 42 6 ∧ B' 42 23 = B 42 23 ∧ B' 42 25 = B 42 25) (hf : B' 42 0 = A' 1 13) : mj_RL cc m p R A' B' := by
  obtain ⟨a, b, c, d, e, f, g, k, q⟩ := h
  obtain ⟨b1, b2, b3, b4, b5⟩ := hB1
  refine ⟨a, ?_, ?_, ?_, ?_, ?_, ?_, ?_, ?_⟩
  · unfold mj_rS at b ⊢
    rw [hA cc (by omega) (by omega) (by omega), hA1.1, b2, b3, b5]; exact b
  · unfold mj_rT at c ⊢
    rw [hA1.2, b1]; exact ⟨c.1, hf⟩
  · unfold mj_rC at d ⊢
    rw [hB 46 (by omega), hB 47 (by omega), hA (cc + 1) (by omega) (by omega) (by omega), hA (cc + 2) (by omega) (by omega) (by omega)]; exact d
  · intro s hs
    have := a.2.1
    rw [hB 48 (by omega), hB 49 (by omega), hA (cc + 3) (by omega) (by omega) (by omega), hA (cc + 5 + s) (by omega) (by omega) (by omega)]
    exact e s hs
  · unfold mj_rD at f ⊢
    rw [hB 59 (by omega), hB 60 (by omega), hA 32 (by omega) (by omega) (by omega), hA 33 (by omega) (by omega) (by omega)]; exact f
  · intro j hj
    unfold mj_rH1
    rw [hB 43 (by omega), hB 44 (by omega), hB 45 (by omega), hA (34 + 2 * j) (by omega) (by omega) (by omega), hA (34 + 2 * j + 1) (by omega) (by omega) (by omega)]
    exact g j hj
  · unfold mj_rF at k ⊢
    rw [b4]
    rcases k with k | ⟨k1, k2⟩
    · exact Or.inl k
    · exact Or.inr ⟨k1, mj_TO_eq ⟨b2, b3, hB 46 (by omega), hB 47 (by omega), hB 48 (by omega), hB 49 (by omega)⟩ (hB 57 (by omega)) k2⟩
  · intro y hy
    rw [hA 22 (by omega) (by omega) (by omega)]; exact q y hy
/-- what the reference takes -/
theorem rq_kA (m : Nat) : ∀ (k j : Nat) (I : mj_I), k + j ≤ 6 → (∀ x, x ≠ 46 → x ≠ 47 → s_X6_kA m k j I x = I x) ∧ ∀ s, s < 6 → s_X6_kA m k j I 46 (nI s) = (if j ≤ s ∧ s < j + k then I 50 (nI s) else I 46 (nI s)) ∧ s_X6_kA m k j I 47 (nI s) = (if j ≤ s ∧ s < j + k then I 51 (nI s) else I 47 (nI s)) := by
  intro k
  induction k with
  | zero =>
    intro j I _
    refine ⟨fun _ _ _ => rfl, fun s _ => ?_⟩
    rw [if_neg (by omega), if_neg (by omega)]; exact ⟨rfl, rfl⟩
  | succ k ih =>
    intro j I hj
    rw [s_X6_kA]
    obtain ⟨i1, i2⟩ := ih (j + 1) (mj_upI (mj_upI I 46 (nI j) (I 50 (nI j))) 47 (nI j) (I 51 (nI j))) (by omega)
    refine ⟨fun x h1 h2 => by rw [i1 x h1 h2, mj_upI_ne h2, mj_upI_ne h1], fun s hs => ?_⟩
    obtain ⟨j1, j2⟩ := i2 s hs
    rw [mj_upI_ne (show (50 : Nat) ≠ 47 by decide), mj_upI_ne (show (50 : Nat) ≠ 46 by decide), mj_upI_ne (show (46 : Nat) ≠ 47 by decide), mj_upI_eq] at j1
    rw [mj_upI_ne (show (51 : Nat) ≠ 47 by decide), mj_upI_ne (show (51 : Nat) ≠ 46 by decide), mj_upI_eq, mj_upI_ne (show (47 : Nat) ≠ 46 by decide)] at j2
    rw [j1, j2]
    by_cases hsj : s = j
    · subst hsj
      rw [if_neg (show ¬ (s + 1 ≤ s ∧ s < s + 1 + k) by omega), if_neg (show ¬ (s + 1 ≤ s ∧ s < s + 1 + k) by omega), if_pos rfl, if_pos rfl, if_pos (show s ≤ s ∧ s < s + (k + 1) by omega), if_pos (show s ≤ s ∧ s < s + (k + 1) by omega)]
      exact ⟨rfl, rfl⟩
    · have ns : ¬ nI s = nI j := fun hh => hsj ((rq_nIe (by omega) (by omega)).mp hh)
      rw [if_neg ns, if_neg ns]
      by_cases hh : j ≤ s ∧ s < j + (k + 1)
      · rw [if_pos hh, if_pos hh, if_pos (show j + 1 ≤ s ∧ s < j + 1 + k by omega), if_pos (show j + 1 ≤ s ∧ s < j + 1 + k by omega)]; exact ⟨rfl, rfl⟩
      · rw [if_neg hh, if_neg hh, if_neg (show ¬ (j + 1 ≤ s ∧ s < j + 1 + k) by omega), if_neg (show ¬ (j + 1 ≤ s ∧ s < j + 1 + k) by omega)]; exact ⟨rfl, rfl⟩
theorem rq_kC (y : Nat) (hy : y < 3) : ∀ (k j : Nat) (I : mj_I), k + j ≤ 3 → (∀ x, x ≠ 49 → s_X6_kC y k j I x = I x) ∧ ∀ q, q < 3 → ∀ t, t < 3 → s_X6_kC y k j I 49 (nI (3 * q + t)) = if q = y ∧ j ≤ t ∧ t < j + k then I 53 (nI (3 * q + t)) else I 49 (nI (3 * q + t)) := by
  intro k
  induction k with
  | zero =>
    intro j I _
    refine ⟨fun _ _ => rfl, fun q _ t _ => ?_⟩
    rw [if_neg (by omega)]; rfl
  | succ k ih =>
    intro j I hj
    rw [s_X6_kC, show (3 : Int32) * nI y + nI j = nI (3 * y + j) from rq_x3 ⟨y, hy⟩ ⟨j, by omega⟩]
    obtain ⟨i1, i2⟩ := ih (j + 1) (mj_upI I 49 (nI (3 * y + j)) (I 53 (nI (3 * y + j)))) (by omega)
    refine ⟨fun x h1 => by rw [i1 x h1, mj_upI_ne h1], fun q hq t ht => ?_⟩
    rw [i2 q hq t ht, mj_upI_ne (show (53 : Nat) ≠ 49 by decide), mj_upI_eq]
    by_cases hh : q = y ∧ t = j
    · obtain ⟨h1, h2⟩ := hh
      subst h1 h2
      rw [if_neg (by omega), if_pos rfl, if_pos (by omega)]
    · rw [if_neg (show ¬ nI (3 * q + t) = nI (3 * y + j) from fun g => by have := (rq_nIe (by omega) (by omega)).mp g; omega)]
      by_cases g : q = y ∧ j ≤ t ∧ t < j + (k + 1)
      · rw [if_pos g, if_pos (by omega)]
      · rw [if_neg g, if_neg (by omega)]
theorem rq_kB (p : Nat) : ∀ (k j : Nat) (I : mj_I), k + j ≤ 3 → (∀ x, x ≠ 42 → x ≠ 48 → x ≠ 49 → s_X6_kB p k j I x = I x) ∧ (∀ z, s_X6_kB p k j I 42 z = if z = 23 then 0 else if z = 25 then 0 else I 42 z) ∧ ∀ q, q < 3 → s_X6_kB p k j I 48 (nI q) = (if j ≤ q ∧ q < j + k then I 52 (nI q) else I 48 (nI q)) ∧ ∀ t, t < 3 → s_X6_kB p k j I 49 (nI (3 * q + t)) = if j ≤ q ∧ q < j + k then I 53 (nI (3 * q + t)) else I 49 (nI (3 * q + t)) := by
  intro k
  induction k with
  | zero =>
    intro j I _
    rw [s_X6_kB]
    refine ⟨fun x h1 _ _ => by rw [mj_upI_ne h1, mj_upI_ne h1], fun z => by rw [mj_upI_eq, mj_upI_eq], fun q _ => ?_⟩
    rw [if_neg (by omega), mj_upI_ne (by decide), mj_upI_ne (by decide)]
    refine ⟨rfl, fun t _ => ?_⟩
    rw [if_neg (by omega), mj_upI_ne (by decide), mj_upI_ne (by decide)]
  | succ k ih =>
    intro j I hj
    rw [s_X6_kB]
    obtain ⟨c1, c2⟩ := rq_kC j (by omega) 3 0 (mj_upI I 48 (nI j) (I 52 (nI j))) (by omega)
    obtain ⟨i1, i2, i3⟩ := ih (j + 1) (s_X6_kC j 3 0 (mj_upI I 48 (nI j) (I 52 (nI j)))) (by omega)
    refine ⟨fun x h1 h2 h3 => by rw [i1 x h1 h2 h3, c1 x h3, mj_upI_ne h2], fun z => by rw [i2 z, c1 42 (by decide), mj_upI_ne (by decide)], fun q hq => ?_⟩
    obtain ⟨k1, k2⟩ := i3 q hq
    rw [c1 52 (by decide), c1 48 (by decide), mj_upI_ne (show (52 : Nat) ≠ 48 by decide), mj_upI_eq] at k1
    refine ⟨?_, fun t ht => ?_⟩
    · rw [k1]
      by_cases hqj : q = j
      · subst hqj
        rw [if_neg (by omega), if_pos rfl, if_pos (by omega)]
      · rw [if_neg (show ¬ nI q = nI j from fun g => hqj ((rq_nIe (by omega) (by omega)).mp g))]
        by_cases g : j ≤ q ∧ q < j + (k + 1)
        · rw [if_pos g, if_pos (by omega)]
        · rw [if_neg g, if_neg (by omega)]
    · rw [k2 t ht, c2 q hq t ht, c1 53 (by decide), mj_upI_ne (show (53 : Nat) ≠ 48 by decide), mj_upI_ne (show (49 : Nat) ≠ 48 by decide)]
      by_cases hqj : q = j
      · subst hqj
        rw [if_neg (show ¬ (q + 1 ≤ q ∧ q < q + 1 + k) by omega), if_pos (show q = q ∧ 0 ≤ t ∧ t < 0 + 3 by omega), if_pos (show q ≤ q ∧ q < q + (k + 1) by omega)]
      · rw [if_neg (show ¬ (q = j ∧ 0 ≤ t ∧ t < 0 + 3) from fun g => hqj g.1)]
        by_cases g : j ≤ q ∧ q < j + (k + 1)
        · rw [if_pos g, if_pos (by omega)]
        · rw [if_neg g, if_neg (by omega)]
theorem rq_tc {m p : Nat} {Q : mj_I} (hm : m ≤ 6) (hp : p ≤ 3) : (∀ x, x ≠ 42 → (x < 46 ∨ 49 < x) → s_X6_takeCity m p Q x = Q x) ∧ (∀ z, s_X6_takeCity m p Q 42 z = if z = 23 then 0 else if z = 25 then 0 else if z = 6 then Q 42 13 else if z = 5 then Q 42 12 else Q 42 z) ∧ (∀ s, s < m → s_X6_takeCity m p Q 46 (nI s) = Q 50 (nI s) ∧ s_X6_takeCity m p Q 47 (nI s) = Q 51 (nI s)) ∧ ∀ q, q < p → s_X6_takeCity m p Q 48 (nI q) = Q 52 (nI q) ∧ ∀ t, t < 3 → s_X6_takeCity m p Q 49 (nI (3 * q + t)) = Q 53 (nI (3 * q + t)) := by
  unfold s_X6_takeCity
  obtain ⟨a1, a2⟩ := rq_kA m m 0 (mj_upI Q 42 5 (Q 42 12)) (by omega)
  obtain ⟨b1, b2, b3⟩ := rq_kB p p 0 (mj_upI (s_X6_kA m m 0 (mj_upI Q 42 5 (Q 42 12))) 42 6 (s_X6_kA m m 0 (mj_upI Q 42 5 (Q 42 12)) 42 13)) (by omega)
  have f13 : s_X6_kA m m 0 (mj_upI Q 42 5 (Q 42 12)) 42 13 = Q 42 13 := by rw [a1 42 (by decide) (by decide), mj_upI_eq, if_neg (by decide)]
  rw [f13] at b1 b2 b3 ⊢
  refine ⟨fun x h1 h2 => ?_, fun z => ?_, fun s hs => ?_, fun q hq => ⟨?_, fun t ht => ?_⟩⟩
  · rw [b1 x h1 (by omega) (by omega), mj_upI_ne h1, a1 x (by omega) (by omega), mj_upI_ne h1]
  · rw [b2 z, mj_upI_eq, a1 42 (by decide) (by decide), mj_upI_eq]
  · obtain ⟨s1, s2⟩ := a2 s (by omega)
    rw [b1 46 (by decide) (by decide) (by decide), b1 47 (by decide) (by decide) (by decide), mj_upI_ne (by decide), mj_upI_ne (by decide), s1, s2, if_pos (show 0 ≤ s ∧ s < 0 + m by omega), if_pos (show 0 ≤ s ∧ s < 0 + m by omega), mj_upI_ne (by decide), mj_upI_ne (by decide)]
    exact ⟨rfl, rfl⟩
  · rw [(b3 q (by omega)).1, if_pos (by omega), mj_upI_ne (by decide), a1 52 (by decide) (by decide), mj_upI_ne (by decide)]
  · rw [(b3 q (by omega)).2 t ht, if_pos (by omega), mj_upI_ne (by decide), a1 53 (by decide) (by decide), mj_upI_ne (by decide)]
theorem rq_diff (a x : Nat) : nI (a + x) - nI a = nI x := by
  rw [← nI_add, Int32.add_comm, Int32.add_sub_cancel]
theorem rq_v_city {cc dd r m p R : Nat} {A B : mj_I} (hcc : (cc = 2 ∧ dd = 10) ∨ (cc = 10 ∧ dd = 2)) (h : mj_RL cc m p R A B) (s u i n : Int32) : (s_X5_city cc dd r s u i n A).1 = (s_X6_city s u i n B).1 ∧ (((s_X5_city cc dd r s u i n A).2.2.1 = 2 ∧ (s_X5_city cc dd r s u i n A).2.2.2.1 = 10) ∨ ((s_X5_city cc dd r s u i n A).2.2.1 = 10 ∧ (s_X5_city cc dd r s u i n A).2.2.2.1 = 2)) ∧ ∃ m' p' R', mj_RL (s_X5_city cc dd r s u i n A).2.2.1 m' p' R' (s_X5_city cc dd r s u i n A).2.1 (s_X6_city s u i n B).2 := by
  have hc : cc = 2 ∨ cc = 10 := by omega
  unfold s_X5_city s_X6_city
  rw [rq_sh_eq A (mj_upI B 42 0 0), rq_so_eq A (mj_upI B 42 0 0)]
  rcases rq_sheet (k := s) (A := A) with ⟨k, hk, rfl, e⟩ | e
  · rw [e, if_neg rq_n10, if_neg rq_n10]
    by_cases hl : s_X5_isLane u A = 0
    · rw [if_pos hl, if_pos hl]; exact ⟨rfl, hcc, m, p, R, rq_RL_0 hc h⟩
    · rw [if_neg hl, if_neg hl]
      have hH := h.2.2.2.2.2.2.1 k hk
      have hH0 : mj_rH1 k A (mj_upI B 42 0 0) := by
        unfold mj_rH1 at hH ⊢
        rw [mj_upI_ne (show (44 : Nat) ≠ 42 by decide), mj_upI_ne (show (43 : Nat) ≠ 42 by decide), mj_upI_ne (show (45 : Nat) ≠ 42 by decide)]
        exact hH
      rw [rq_ag2 hH0 u i n, mj_tnm (show k < 2147483648 by omega)]
      by_cases h0 : sp_fot (A (34 + 2 * k) 0) (A (34 + 2 * k) 1) (A (34 + 2 * k) 2) u i n = 0
      · rw [if_pos h0, if_pos h0]
        obtain ⟨x, y, hxy, rfl, rfl⟩ := rq_fot2 hH h0
        rw [rq_60 hk, nI_add, nI_add]
        have hA1 : ∀ z, z ≠ 1 → z ≠ 18 → mj_upI (mj_upI (mj_upI (mj_upI A 1 13 0) 18 1 (nI x)) 18 2 (nI y)) 18 3 0 z = A z := fun z h1 h2 => by
          rw [mj_upI_ne h2, mj_upI_ne h2, mj_upI_ne h2, mj_upI_ne h1]
        have hA11 : ∀ z, mj_upI (mj_upI (mj_upI (mj_upI A 1 13 0) 18 1 (nI x)) 18 2 (nI y)) 18 3 0 1 z = if z = 13 then 0 else A 1 z := fun z => by
          rw [mj_upI_ne (by decide), mj_upI_ne (by decide), mj_upI_ne (by decide), mj_upI_eq]
        have hB1 : ∀ z, z ≠ 42 → mj_upI (mj_upI B 42 0 0) 42 11 (nI (60 * k + x)) z = B z := fun z h1 => by
          rw [mj_upI_ne h1, mj_upI_ne h1]
        have hB11 : ∀ z, mj_upI (mj_upI B 42 0 0) 42 11 (nI (60 * k + x)) 42 z = if z = 11 then nI (60 * k + x) else if z = 0 then 0 else B 42 z := fun z => by
          rw [mj_upI_eq, mj_upI_eq]
        have RB0 : rq_RB dd k x y (mj_upI (mj_upI (mj_upI (mj_upI A 1 13 0) 18 1 (nI x)) 18 2 (nI y)) 18 3 0) (mj_upI (mj_upI B 42 0 0) 42 11 (nI (60 * k + x))) 0 (mj_upI (mj_upI (mj_upI (mj_upI A 1 13 0) 18 1 (nI x)) 18 2 (nI y)) 18 3 0) (mj_upI (mj_upI B 42 0 0) 42 11 (nI (60 * k + x))) := by
          refine ⟨by omega, ?_, ?_, ?_, ?_, fun _ _ _ => rfl, fun _ _ _ => rfl, fun _ _ _ _ => rfl⟩
          · rw [mj_upI_eq, if_neg (by decide), mj_upI_eq, if_neg (by decide), mj_upI_eq, if_pos rfl]
          · rw [mj_upI_eq, if_neg (by decide), mj_upI_eq, if_pos rfl]
          · rw [mj_upI_eq, if_pos rfl]; rfl
          · rw [hB11, if_pos rfl]; rfl
        have hK : rq_RC dd k x y (mj_upI (mj_upI (mj_upI (mj_upI A 1 13 0) 18 1 (nI x)) 18 2 (nI y)) 18 3 0) (mj_upI (mj_upI B 42 0 0) 42 11 (nI (60 * k + x))) := by
          refine ⟨by omega, hk, hxy, fun j hj => ?_⟩
          rw [hA1 _ (by omega) (by omega), hB1 45 (by decide)]
          exact hH.2.2.2 j hj
        have rd := rq_rcty hK RB0
        revert rd RB0 hK hA1 hA11 hB1 hB11
        generalize mj_upI (mj_upI (mj_upI (mj_upI A 1 13 0) 18 1 (nI x)) 18 2 (nI y)) 18 3 0 = A1
        generalize mj_upI (mj_upI B 42 0 0) 42 11 (nI (60 * k + x)) = B1
        generalize s_X2_readsCity dd (34 + 2 * k + 1) A1 = P
        generalize s_X6_readCity (nI (60 * k + x + y)) B1 = Q
        intro hA1 hA11 hB1 hB11 RB0 hK rd
        rcases rd with ⟨r1, r2, y1, r3⟩ | ⟨r1, r2, ⟨y1, r3⟩, m', p', hp', hSC, hp1, hp13, hPK⟩
        · rw [if_pos r1, if_pos r2]
          obtain ⟨b0, b1, b2, b3, b4, b5, b6, b7⟩ := r3
          refine ⟨?_, hcc, m, p, R, rq_RL_dd hcc h (fun z h1 h2 h3 => ?_) ⟨?_, ?_⟩ (fun z hz => ?_) ⟨?_, ?_, ?_, ?_, ?_⟩ ?_⟩
          · show (-100 : Int32) - P.2 18 3 = (-100) - (Q.2 42 11 - nI (60 * k + x))
            rw [b3, b4, rq_diff]
          · exact (b5 z h1 h3).trans (hA1 z h2 h1)
          · show P.2 1 11 = _
            rw [b5 1 (by decide) (by omega), hA11, if_neg (by decide)]
          · show P.2 1 12 = _
            rw [b5 1 (by decide) (by omega), hA11, if_neg (by decide)]
          · exact (b6 z (by omega) (by omega)).trans (hB1 z (by omega))
          · exact (b7 1 (by decide) (by decide) (by decide)).trans (by rw [hB11, if_neg (by decide), if_neg (by decide)])
          · exact (b7 5 (by decide) (by decide) (by decide)).trans (by rw [hB11, if_neg (by decide), if_neg (by decide)])
          · exact (b7 6 (by decide) (by decide) (by decide)).trans (by rw [hB11, if_neg (by decide), if_neg (by decide)])
          · exact (b7 23 (by decide) (by decide) (by decide)).trans (by rw [hB11, if_neg (by decide), if_neg (by decide)])
          · exact (b7 25 (by decide) (by decide) (by decide)).trans (by rw [hB11, if_neg (by decide), if_neg (by decide)])
          · show Q.2 42 0 = P.2 1 13
            rw [b7 0 (by decide) (by decide) (by decide), hB11, if_neg (by decide), if_pos rfl, b5 1 (by decide) (by omega), hA11, if_pos rfl]
        · rw [if_neg (by rw [r1]; decide), if_neg (by rw [r2]; decide)]
          obtain ⟨b0, b1, b2, b3, b4, b5, b6, b7⟩ := r3
          obtain ⟨⟨hm', hd0, h12⟩, hs, hcn, hCO⟩ := hSC
          rw [h12, hp13, mj_tnm (show m' < 2147483648 by omega), mj_tnm (show p' < 2147483648 by omega), hp1]
          obtain ⟨t1, t2, t3, t4⟩ := rq_tc (Q := Q.2) hm' hp'
          have fA : ∀ z, z ≠ 1 → mj_upI P.2 1 11 0 z = P.2 z := fun z hz => mj_upI_ne hz
          refine ⟨?_, hcc.elim (fun q => Or.inr ⟨q.2, q.1⟩) (fun q => Or.inl ⟨q.2, q.1⟩), m', p', 0, ⟨hm', hp', by omega⟩, ⟨⟨?_, ?_⟩, ⟨?_, ?_⟩, ⟨?_, ?_⟩⟩, ⟨?_, ?_⟩, ⟨fun w hw => ⟨?_, ?_, ?_⟩, ?_⟩, fun w hw => ?_, fun j hj => absurd hj (by omega), fun j hj => ?_, Or.inl ?_, fun z hz => ?_⟩
          · show nI p' = s_X6_takeCity m' p' Q.2 42 6
            rw [t2, if_neg (by decide), if_neg (by decide), if_pos rfl, hp13]
          · show mj_upI P.2 1 11 0 dd 0 = _
            rw [fA dd (by omega)]; exact hd0
          · show s_X6_takeCity m' p' Q.2 42 5 = _
            rw [t2, if_neg (by decide), if_neg (by decide), if_neg (by decide), if_pos rfl, h12]
          · show mj_upI P.2 1 11 0 dd 1 = _
            rw [fA dd (by omega)]; exact hp1
          · show s_X6_takeCity m' p' Q.2 42 6 = _
            rw [t2, if_neg (by decide), if_neg (by decide), if_pos rfl, hp13]
          · show mj_upI P.2 1 11 0 1 11 = _
            rw [mj_upI_eq, if_pos rfl]; rfl
          · show s_X6_takeCity m' p' Q.2 42 25 = _
            rw [t2, if_neg (by decide), if_pos rfl]; rfl
          · show s_X6_takeCity m' p' Q.2 42 1 = mj_upI P.2 1 11 0 1 12
            rw [t2, if_neg (by decide), if_neg (by decide), if_neg (by decide), if_neg (by decide), b7 1 (by decide) (by decide) (by decide), hB11, if_neg (by decide), if_neg (by decide), mj_upI_eq, if_neg (by decide), b5 1 (by decide) (by omega), hA11, if_neg (by decide)]
            exact h.2.2.1.1
          · show s_X6_takeCity m' p' Q.2 42 0 = mj_upI P.2 1 11 0 1 13
            rw [t2, if_neg (by decide), if_neg (by decide), if_neg (by decide), if_neg (by decide), b7 0 (by decide) (by decide) (by decide), hB11, if_neg (by decide), if_pos rfl, mj_upI_eq, if_neg (by decide), b5 1 (by decide) (by omega), hA11, if_pos rfl]
          · show s_X6_takeCity m' p' Q.2 46 (nI w) = mj_upI P.2 1 11 0 (dd + 1) (nI w)
            rw [fA _ (by omega), (t3 w hw).1]; exact (hs w hw).1
          · show mj_in (mj_upI P.2 1 11 0 (dd + 1) (nI w)) 4
            rw [fA _ (by omega)]; exact (hs w hw).2
          · show s_X6_takeCity m' p' Q.2 47 (nI w) = mj_upI P.2 1 11 0 (dd + 2) (nI w)
            rw [fA _ (by omega), (t3 w hw).2]; exact hcn w hw
          · show mj_CO m' (mj_upI P.2 1 11 0 (dd + 2))
            rw [fA _ (by omega)]; exact hCO
          · show s_X6_takeCity m' p' Q.2 48 (nI w) = mj_upI P.2 1 11 0 (dd + 3) (nI w) ∧ mj_in (mj_upI P.2 1 11 0 (dd + 3) (nI w)) 3 ∧ ∀ t, t < 3 → s_X6_takeCity m' p' Q.2 49 (nI (3 * w + t)) = mj_upI P.2 1 11 0 (dd + 5 + w) (nI t) ∧ mj_in (mj_upI P.2 1 11 0 (dd + 5 + w) (nI t)) 4
            obtain ⟨w1, w2, w3⟩ := hPK w hw
            rw [fA (dd + 3) (by omega), fA (dd + 5 + w) (by omega), (t4 w hw).1]
            refine ⟨w1, w2, fun t ht => ?_⟩
            rw [(t4 w hw).2 t ht]; exact w3 t ht
          · show mj_rH1 j (mj_upI P.2 1 11 0) (s_X6_takeCity m' p' Q.2)
            have hj2 := h.2.2.2.2.2.2.1 j hj
            unfold mj_rH1 at hj2 ⊢
            rw [fA (34 + 2 * j) (by omega), fA (34 + 2 * j + 1) (by omega), b5 (34 + 2 * j) (by omega) (by omega), b5 (34 + 2 * j + 1) (by omega) (by omega), hA1 (34 + 2 * j) (by omega) (by omega), hA1 (34 + 2 * j + 1) (by omega) (by omega), t1 43 (by decide) (by decide), t1 44 (by decide) (by decide), t1 45 (by decide) (by decide), b6 43 (by decide) (by decide), b6 44 (by decide) (by decide), b6 45 (by decide) (by decide), hB1 43 (by decide), hB1 44 (by decide), hB1 45 (by decide)]
            exact hj2
          · show s_X6_takeCity m' p' Q.2 42 23 = 0
            rw [t2, if_pos rfl]
          · show (mj_upI P.2 1 11 0 22 z).toInt < 3072
            rw [fA 22 (by decide), b5 22 (by decide) (by omega), hA1 22 (by decide) (by decide)]
            exact rq_RL_E h z hz
      · rw [if_neg h0, if_neg h0]
        exact ⟨rfl, hcc, m, p, R, rq_RL_1 hc h⟩
  · rw [e, if_pos rfl, if_pos rfl]; exact ⟨rfl, hcc, m, p, R, rq_RL_0 hc h⟩
