/-! routes: growth and ripe days, the class's and the reference's -/
/-- a city and a way of k days, told alike -/
def rq_Q (cc m p k : Nat) (A B : mj_I) : Prop := (m ≤ 6 ∧ p ≤ 3 ∧ k ≤ 24) ∧ (∀ s, s < m → B 46 (nI s) = A (cc + 1) (nI s)) ∧ mj_rP cc p A B ∧ ∀ t, t < k → ∃ x, x < m ∧ A 29 (nI t) = nI x ∧ B 54 (nI t) = nI x
theorem rq_x2 : ∀ x : Fin 7, nI x.1 / 2 = nI (x.1 / 2) := by decide +kernel
theorem rq_x3 : ∀ q : Fin 3, ∀ t : Fin 3, (3 : Int32) * nI q.1 + nI t.1 = nI (3 * q.1 + t.1) := by decide +kernel
theorem rq_tn3 {q : Nat} (hq : q < 3) : (nI q).toNatClampNeg = q := mj_tnm (by omega)
theorem rq_onBy {cc p : Nat} {A B : mj_I} (hp3 : p ≤ 3) (h : mj_rP cc p A B) {q : Nat} (hq : q < p) {g e : Int32} (hg : mj_in g 7) : s_X6_onBy (nI q) g e B = sp_g A cc (nI q) g e := by
  obtain ⟨x, hx, rfl⟩ := mj6_nat hg (by omega)
  obtain ⟨h1, h2, h3⟩ := h q hq
  unfold s_X6_onBy sp_g sp_gr sp_want
  rw [rq_tn3 (by omega), h1]
  by_cases hx6 : x = 6
  · subst hx6
    rw [if_pos (show nI 6 = 6 from rfl), if_neg (show ¬ (nI 6 : Int32) < 0 by decide), if_neg (show ¬ (nI 6 : Int32) < 6 by decide)]
  · rw [if_neg (show ¬ nI x = 6 from fun hh => hx6 ((rq_nIe (b := 6) (by omega) (by omega)).mp hh)), if_neg (show ¬ nI x < 0 from nI_nlt (b := 0) (by omega) (by omega)), if_pos (show nI x < 6 from nI_lt (b := 6) (by omega) (by omega)), rq_x2 ⟨x, hx⟩, rq_x3 ⟨q, by omega⟩ ⟨x / 2, by omega⟩, (h3 (x / 2) (by omega)).1]
    generalize A (cc + 5 + q) (nI (x / 2)) = w
    generalize A (cc + 3) (nI q) = K
    have e2 : nI (x / 2) * 2 = 2 * nI (x / 2) := Int32.mul_comm _ _
    rw [e2]
    by_cases a : e = w
    · by_cases k1 : K = 1
      · simp only [if_pos a, if_pos k1]; rfl
      · simp only [if_pos a, if_neg k1]; rfl
    · by_cases k1 : K = 1
      · have k2 : ¬ K = 2 := by subst k1; decide
        simp only [if_neg a, if_pos k1, if_neg k2]; rfl
      · by_cases k2 : K = 2
        · by_cases f : e = w + 1 - (w + 1) / 4 * 4
          · simp only [if_neg a, if_neg k1, if_pos k2, if_pos f]; rfl
          · simp only [if_neg a, if_neg k1, if_pos k2, if_neg f]; rfl
        · simp only [if_neg a, if_neg k1, if_neg k2]; rfl
theorem rq_onBy_eq {q g e : Int32} {I I' : mj_I} (h8 : I' 48 = I 48) (h9 : I' 49 = I 49) : s_X6_onBy q g e I' = s_X6_onBy q g e I := by
  unfold s_X6_onBy
  rw [h8, h9]
/-- one plant's day -/
def rq_g3s (y j : Nat) (I : mj_I) : mj_I := mj_upI (mj_upI I 55 (nI j) (s_X6_onBy (nI j) (I 55 (nI j)) (I 46 (I 54 (nI y))) I)) 56 (nI j) (if I 56 (nI j) = -9 then (if s_X6_onBy (nI j) (I 55 (nI j)) (I 46 (I 54 (nI y))) I = 6 then nI y else I 56 (nI j)) else I 56 (nI j))
theorem rq_g3_1 (n p y k j : Nat) (I : mj_I) : s_X6_g3 n p y (k + 1) j I = s_X6_g3 n p y k (j + 1) (rq_g3s y j I) := by
  rw [s_X6_g3, mj_upI_eq, if_pos rfl]
  unfold rq_g3s
  by_cases h : I 56 (nI j) = -9
  · rw [if_pos h, if_pos h]
    by_cases h2 : s_X6_onBy (nI j) (I 55 (nI j)) (I 46 (I 54 (nI y))) I = 6
    · rw [if_pos h2, if_pos h2]
    · rw [if_neg h2, if_neg h2]
  · rw [if_neg h, if_neg h]
theorem rq_g3_ne (n p y : Nat) (x : Nat) (h1 : x ≠ 55) (h2 : x ≠ 56) : ∀ (k j : Nat) (I : mj_I), s_X6_g3 n p y k j I x = I x := by
  intro k
  induction k with
  | zero => intros; rfl
  | succ k ih =>
    intro j I
    rw [rq_g3_1, ih]
    unfold rq_g3s
    rw [mj_upI_ne h2, mj_upI_ne h1]
theorem rq_g3_v (n p y : Nat) {t : Nat} (ht : t < 3) : ∀ (k j : Nat) (I : mj_I), k + j ≤ 3 →
    s_X6_g3 n p y k j I 55 (nI t) = (if j ≤ t ∧ t < j + k then s_X6_onBy (nI t) (I 55 (nI t)) (I 46 (I 54 (nI y))) I else I 55 (nI t)) ∧
    s_X6_g3 n p y k j I 56 (nI t) = (if j ≤ t ∧ t < j + k then (if I 56 (nI t) = -9 then (if s_X6_onBy (nI t) (I 55 (nI t)) (I 46 (I 54 (nI y))) I = 6 then nI y else I 56 (nI t)) else I 56 (nI t)) else I 56 (nI t)) := by
  intro k
  induction k with
  | zero =>
    intro j I _
    rw [if_neg (by omega), if_neg (by omega)]
    exact ⟨rfl, rfl⟩
  | succ k ih =>
    intro j I hk
    rw [rq_g3_1]
    obtain ⟨i1, i2⟩ := ih (j + 1) (rq_g3s y j I) (by omega)
    have f : ∀ z, z ≠ 55 → z ≠ 56 → rq_g3s y j I z = I z := fun z hz hz2 => by unfold rq_g3s; rw [mj_upI_ne hz2, mj_upI_ne hz]
    by_cases htj : t = j
    · subst htj
      rw [if_neg (show ¬ (t + 1 ≤ t ∧ t < t + 1 + k) by omega)] at i1 i2
      rw [i1, i2, if_pos (show t ≤ t ∧ t < t + (k + 1) by omega), if_pos (show t ≤ t ∧ t < t + (k + 1) by omega)]
      unfold rq_g3s
      rw [mj_upI_ne (show (55 : Nat) ≠ 56 by decide), mj_upI_eq, if_pos rfl, mj_upI_eq, if_pos rfl]
      exact ⟨rfl, rfl⟩
    · have e5 : rq_g3s y j I 55 (nI t) = I 55 (nI t) := by
        unfold rq_g3s
        rw [mj_upI_ne (show (55 : Nat) ≠ 56 by decide), mj_upI_eq, if_neg (fun hh => htj ((rq_nIe (by omega) (by omega)).mp hh))]
      have e6 : rq_g3s y j I 56 (nI t) = I 56 (nI t) := by
        unfold rq_g3s
        rw [mj_upI_eq, if_neg (fun hh => htj ((rq_nIe (by omega) (by omega)).mp hh)), mj_upI_ne (show (56 : Nat) ≠ 55 by decide)]
      rw [i1, i2, rq_onBy_eq (f 48 (by decide) (by decide)) (f 49 (by decide) (by decide)), f 46 (by decide) (by decide), f 54 (by decide) (by decide), e5, e6]
      by_cases hh : j ≤ t ∧ t < j + (k + 1)
      · rw [if_pos hh, if_pos hh, if_pos (by omega), if_pos (by omega)]; exact ⟨rfl, rfl⟩
      · rw [if_neg hh, if_neg hh, if_neg (by omega), if_neg (by omega)]; exact ⟨rfl, rfl⟩
theorem rq_m9 {y : Nat} (hy : y < 1000) : ¬ nI y = -9 := fun hh => by
  have := congrArg Int32.toInt hh
  rw [nI_toInt (by omega)] at this
  have e : ((-9 : Int32)).toInt = -9 := by decide
  rw [e] at this
  omega
theorem rq_g2_v {cc m p n : Nat} {A B : mj_I} (hQ : rq_Q cc m p n A B) {q : Nat} (hq : q < p) : ∀ (k j : Nat) (I : mj_I), k + j ≤ n → I 46 = B 46 → I 48 = B 48 → I 49 = B 49 → I 54 = B 54 → mj6_fok (B 48 (nI q)) (I 55 (nI q)) →
    s_X6_g2 n p k j I 55 (nI q) = s_X5_ga cc n (nI q) A k j (I 55 (nI q)) ∧ s_X6_g2 n p k j I 56 (nI q) = if I 56 (nI q) = -9 then s_X5_rd cc n (nI q) A k j (I 55 (nI q)) else I 56 (nI q) := by
  obtain ⟨⟨hm, hp3, hn⟩, hs, hP, hw⟩ := hQ
  intro k
  induction k with
  | zero =>
    intro j I _ _ _ _ _ _
    refine ⟨rfl, ?_⟩
    rw [s_X6_g2, s_X5_rd]
    by_cases h : I 56 (nI q) = -9
    · rw [if_pos h, h]
    · rw [if_neg h]
  | succ k ih =>
    intro j I hk h6 h8 h9 h4 hg
    obtain ⟨x, hx, hA, hB⟩ := hw j (by omega)
    obtain ⟨v1, v2⟩ := rq_g3_v n p j (t := q) (by omega) p 0 I (by omega)
    have fr : ∀ z, z ≠ 55 → z ≠ 56 → s_X6_g3 n p j p 0 I z = I z := fun z hz hz2 => rq_g3_ne n p j z hz hz2 _ _ _
    have est : s_X6_onBy (nI q) (I 55 (nI q)) (I 46 (I 54 (nI j))) I = sp_g A cc (nI q) (I 55 (nI q)) (A (cc + 1) (A 29 (nI j))) := by
      rw [rq_onBy_eq h8 h9, rq_onBy hp3 hP hq hg.1, h4, h6, hB, hA, hs x hx]
    rw [if_pos (by omega), est] at v1
    rw [if_pos (by omega), est] at v2
    have gok : mj6_fok (B 48 (nI q)) (sp_g A cc (nI q) (I 55 (nI q)) (A (cc + 1) (A 29 (nI j)))) := by
      rw [← est, ← h8]
      exact mj6_on (by rw [h8]; exact hg)
    rw [s_X6_g2, s_X5_ga, s_X5_rd]
    obtain ⟨i1, i2⟩ := ih (j + 1) (s_X6_g3 n p j p 0 I) (by omega) (by rw [fr 46 (by decide) (by decide), h6]) (by rw [fr 48 (by decide) (by decide), h8]) (by rw [fr 49 (by decide) (by decide), h9]) (by rw [fr 54 (by decide) (by decide), h4]) (by rw [v1]; exact gok)
    rw [i1, i2, v1, v2]
    refine ⟨rfl, ?_⟩
    by_cases hh : I 56 (nI q) = -9
    · rw [if_pos hh, if_pos hh]
      by_cases h6 : sp_g A cc (nI q) (I 55 (nI q)) (A (cc + 1) (A 29 (nI j))) = 6
      · rw [if_pos h6, if_neg (rq_m9 (by omega)), if_pos h6]
      · rw [if_neg h6, if_pos hh, if_neg h6]
    · rw [if_neg hh, if_neg hh, if_neg hh]
/-- what the reference finds on a way -/
theorem rq_go {cc m p n : Nat} {A B : mj_I} (hQ : rq_Q cc m p n A B) {q : Nat} (hq : q < p) : s_X6_goRoute n p B 55 (nI q) = s_X5_growthAtEnd cc n (nI q) A ∧ s_X6_goRoute n p B 56 (nI q) = s_X5_ripeDay cc n (nI q) A := by
  have hp3 := hQ.1.2.1
  have z := mj6_g1_0 p q (by omega) p 0 B (by omega) (fun h => absurd h (by omega)) (by omega)
  have fr : ∀ x, x ≠ 55 → x ≠ 56 → s_X6_g1 p p 0 B x = B x := fun x h1 h2 => mj6_g1_ne p x h1 h2 _ _ _
  have k := rq_g2_v hQ hq n 0 (s_X6_g1 p p 0 B) (by omega) (fr _ (by decide) (by decide)) (fr _ (by decide) (by decide)) (fr _ (by decide) (by decide)) (fr _ (by decide) (by decide)) (by rw [z.1]; exact ⟨mj_in_nI (j := 0) (by omega) (by omega), Or.inr (Or.inl rfl)⟩)
  rw [z.1, z.2, if_pos rfl] at k
  exact k
