/-! the coldest walks: the class's table and the reference's -/
theorem rq_min {x y : Nat} (hx : x < 2000) (hy : y < 2000) : mj_min (nI x) (nI y) = nI (min x y) := by
  unfold mj_min
  by_cases h : nI y < nI x
  · have := (nI_ltI (by omega) (by omega)).mp h
    rw [if_pos h, Nat.min_eq_right (by omega)]
  · have : ¬ y < x := fun q => h ((nI_ltI (by omega) (by omega)).mpr q)
    rw [if_neg h, Nat.min_eq_left (by omega)]
theorem rq_max {x y : Nat} (hx : x < 2000) (hy : y < 2000) : mj_max (nI x) (nI y) = nI (max x y) := by
  unfold mj_max
  by_cases h : nI x < nI y
  · have := (nI_ltI (by omega) (by omega)).mp h
    rw [if_pos h, Nat.max_eq_right (by omega)]
  · have : ¬ x < y := fun q => h ((nI_ltI (by omega) (by omega)).mpr q)
    rw [if_neg h, Nat.max_eq_left (by omega)]
theorem rq_k1 {x : Nat} (hx : x < 2000) : nI x = 1000 ↔ x = 1000 := nI_eq (b := 1000) (by omega) (by omega)
theorem rq_c5 : ∀ x : Fin 4, ∀ y : Fin 4, 0 ≤ (mj_min (mj_abs (nI x.1 - nI y.1)) (4 - mj_abs (nI x.1 - nI y.1))).toInt ∧ (mj_min (mj_abs (nI x.1 - nI y.1)) (4 - mj_abs (nI x.1 - nI y.1))).toInt ≤ 2 := by decide +kernel
def rq_w (A : mj_I) (cc s t : Nat) : Nat := (sp_cold (A (cc + 1)) (nI s) (nI t)).toInt.toNat
def rq_ed (A : mj_I) (cc s t : Nat) : Bool := sp_cor (A (cc + 2)) (nI s) (nI t)
theorem rq_wv {cc m : Nat} {A B : mj_I} (hC : mj_rC cc m A B) {x y : Nat} (hx : x < m) (hy : y < m) : sp_cold (A (cc + 1)) (nI x) (nI y) = nI (rq_w A cc x y) ∧ rq_w A cc x y ≤ 2 := by
  obtain ⟨v, hv, ev⟩ := mj6_nat (hC.1 x hx).2.1 (by omega)
  obtain ⟨u, hu, eu⟩ := mj6_nat (hC.1 y hy).2.1 (by omega)
  have q := rq_c5 ⟨v, hv⟩ ⟨u, hu⟩
  unfold rq_w sp_cold
  rw [ev, eu]
  have q1 : 0 ≤ (mj_min (mj_abs (nI v - nI u)) (4 - mj_abs (nI v - nI u))).toInt := q.1
  have q2 : (mj_min (mj_abs (nI v - nI u)) (4 - mj_abs (nI v - nI u))).toInt ≤ 2 := q.2
  refine ⟨mj_ofI ?_, by omega⟩
  rw [nI_toInt (by omega)]
  omega
theorem rq_irr {cc m : Nat} {A B : mj_I} (hm : m ≤ 6) (hC : mj_rC cc m A B) {s : Nat} (hs : s < m) : rq_ed A cc s s = false := by
  obtain ⟨q, h1, _, h3⟩ := hC.2
  unfold rq_ed
  rw [rq_cor hm h1 hs (by omega)]
  exact h3 s hs
theorem rq_L3_far {e : Nat → Nat → Bool} {w : Nat → Nat → Nat} {s : Nat} {D : Nat → Nat} (h : ¬ D s < 1000) : ∀ k j, rq_L3 e w s k j D = D := by
  intro k
  induction k with
  | zero => intro j; rfl
  | succ k ih =>
    intro j
    rw [rq_L3_1, show rq_st e w s j D = D from if_neg (fun q => h q.2), ih]
def rq_t5 (m : Nat) (A : mj_I) (D : Nat → Nat) : Prop := ∀ t, t < m → A 31 (nI t) = nI (D t) ∧ D t ≤ 1000
section VM
variable {cc m : Nat} {A B : mj_I}
theorem rq_5c (hm : m ≤ 6) (hcc : cc = 2 ∨ cc = 10) (hC : mj_rC cc m A B) {s : Nat} (hs : s < m) : ∀ (k j : Nat) (A' : mj_I) (D : Nat → Nat), k + j ≤ m → (∀ x, x ≠ 31 → A' x = A x) → rq_t5 m A' D → D s < 1000 → (∀ x, x ≠ 31 → s_X5_sc cc (nI s) m k j A' x = A x) ∧ rq_t5 m (s_X5_sc cc (nI s) m k j A') (rq_L3 (rq_ed A cc) (rq_w A cc) s k j D) := by
  intro k
  induction k with
  | zero => intro j A' D _ h1 h2 _; exact ⟨h1, h2⟩
  | succ k ih =>
    intro j A' D hj h1 h2 h3
    rw [s_X5_sc, rq_L3_1, h1 _ (show cc + 2 ≠ 31 by omega), h1 _ (show cc + 1 ≠ 31 by omega)]
    obtain ⟨v1, v2⟩ := rq_wv hC hs (show j < m by omega)
    have d1 := h2 s hs
    have d2 := h2 j (by omega)
    have hle := rq_st_le (e := rq_ed A cc) (w := rq_w A cc) (s := s) (j := j) (D := D)
    by_cases he : sp_cor (A (cc + 2)) (nI s) (nI j) = true
    · rw [if_pos he]
      refine ih (j + 1) _ _ (by omega) (fun x hx => by rw [mj_upI_ne hx, h1 x hx]) (fun t ht => ?_) (by have := hle s; omega)
      refine ⟨?_, by have := hle t; have := (h2 t ht).2; omega⟩
      rw [v1, d1.1, d2.1, nI_add, rq_min (by omega) (by omega), mj_upI_eq]
      rw [show rq_st (rq_ed A cc) (rq_w A cc) s j D = rq_U D j (min (D j) (D s + rq_w A cc s j)) from if_pos ⟨he, h3⟩]
      unfold rq_U
      by_cases htj : t = j
      · rw [if_pos (by rw [htj]), if_pos htj]
      · rw [if_neg (fun hh => htj ((rq_nIe (by omega) (by omega)).mp hh)), if_neg htj]
        exact (h2 t ht).1
    · rw [if_neg he, show rq_st (rq_ed A cc) (rq_w A cc) s j D = D from if_neg (fun q => he q.1)]
      exact ih (j + 1) A' D (by omega) h1 h2 h3
theorem rq_5s (hm : m ≤ 6) (hcc : cc = 2 ∨ cc = 10) (hC : mj_rC cc m A B) {s : Nat} (hs : s < m) (A' : mj_I) (D : Nat → Nat) (h1 : ∀ x, x ≠ 31 → A' x = A x) (h2 : rq_t5 m A' D) : (∀ x, x ≠ 31 → s_X5_spreadColdsByCorners cc (nI s) m A' x = A x) ∧ rq_t5 m (s_X5_spreadColdsByCorners cc (nI s) m A') (rq_L3 (rq_ed A cc) (rq_w A cc) s m 0 D) := by
  unfold s_X5_spreadColdsByCorners
  have d1 := h2 s hs
  rw [d1.1]
  by_cases h : D s = 1000
  · rw [if_pos ((rq_k1 (by omega)).mpr h), rq_L3_far (by omega)]
    exact ⟨h1, h2⟩
  · rw [if_neg (fun q => h ((rq_k1 (by omega)).mp q))]
    exact rq_5c hm hcc hC hs m 0 A' D (by omega) h1 h2 (by omega)
theorem rq_5r (hm : m ≤ 6) (hcc : cc = 2 ∨ cc = 10) (hC : mj_rC cc m A B) (a q : Int32) : ∀ (k j : Nat) (A' : mj_I) (D : Nat → Nat), k + j ≤ m → (∀ x, x ≠ 31 → A' x = A x) → rq_t5 m A' D → (∀ x, x ≠ 31 → s_X5_s1 cc m a q k j A' x = A x) ∧ rq_t5 m (s_X5_s1 cc m a q k j A') (rq_L2 (rq_ed A cc) (rq_w A cc) m k j D) := by
  intro k
  induction k with
  | zero => intro j A' D _ h1 h2; exact ⟨h1, h2⟩
  | succ k ih =>
    intro j A' D hj h1 h2
    rw [s_X5_s1, rq_L2]
    obtain ⟨i1, i2⟩ := rq_5s hm hcc hC (show j < m by omega) A' D h1 h2
    exact ih (j + 1) _ _ (by omega) i1 i2
theorem rq_5t (hm : m ≤ 6) (hcc : cc = 2 ∨ cc = 10) (hC : mj_rC cc m A B) (a : Int32) : ∀ (k j : Nat) (A' : mj_I) (D : Nat → Nat), (∀ x, x ≠ 31 → A' x = A x) → rq_t5 m A' D → (∀ x, x ≠ 31 → s_X5_s2 cc m a k j A' x = A x) ∧ rq_t5 m (s_X5_s2 cc m a k j A') (rq_L1 (rq_ed A cc) (rq_w A cc) m k D) := by
  intro k
  induction k with
  | zero => intro j A' D h1 h2; exact ⟨h1, h2⟩
  | succ k ih =>
    intro j A' D h1 h2
    rw [s_X5_s2, rq_L1]
    obtain ⟨i1, i2⟩ := rq_5r hm hcc hC a (nI j) m 0 A' D (by omega) h1 h2
    exact ih (j + 1) _ _ i1 i2
def rq_T (A : mj_I) (cc m a : Nat) : Nat → Nat := rq_L1 (rq_ed A cc) (rq_w A cc) m (m - 1) (rq_D0 a)
theorem rq_5 (hm : m ≤ 6) (hcc : cc = 2 ∨ cc = 10) (hC : mj_rC cc m A B) {a : Nat} (ha : a < m) (A' : mj_I) (h1 : ∀ x, x ≠ 31 → A' x = A x) : (∀ x, x ≠ 31 → s_X5_spreadColds cc m (nI a) A' x = A x) ∧ rq_t5 m (s_X5_spreadColds cc m (nI a) A') (rq_T A cc m a) := by
  unfold s_X5_spreadColds
  refine rq_5t hm hcc hC (nI a) (m - 1) 1 _ _ (fun x hx => by rw [mj_upI_ne hx, mj_fil_ne hx, h1 x hx]) (fun t ht => ?_)
  rw [mj_upI_eq]
  unfold rq_D0
  by_cases hta : t = a
  · rw [if_pos (by rw [hta]), if_pos hta]; exact ⟨rfl, by omega⟩
  · rw [if_neg (fun hh => hta ((rq_nIe (by omega) (by omega)).mp hh)), if_neg hta, rq_fil_v (by omega) (by omega)]
    exact ⟨rfl, by omega⟩
/-- the reference's coding -/
def rq_cd (x : Nat) : Int32 := if x = 1000 then -9 else nI x
def rq_t6 (m : Nat) (B : mj_I) (D : Nat → Nat) : Prop := ∀ t, t < m → B 58 (nI t) = rq_cd (D t) ∧ D t ≤ 1000
def rq_bd (m N : Nat) (D : Nat → Nat) : Prop := ∀ t, t < m → D t = 1000 ∨ D t ≤ N
theorem rq_cd9 {x : Nat} (hx : x ≤ 1000) : rq_cd x = -9 ↔ x = 1000 := by
  unfold rq_cd
  by_cases h : x = 1000
  · rw [if_pos h]; exact ⟨fun _ => h, fun _ => rfl⟩
  · rw [if_neg h]; exact ⟨fun q => absurd q (by
      intro hh
      have := congrArg Int32.toInt hh
      rw [nI_toInt (by omega)] at this
      have e : ((-9 : Int32)).toInt = -9 := by decide
      rw [e] at this
      omega), fun q => absurd q h⟩
theorem rq_6c (hm : m ≤ 6) (hC : mj_rC cc m A B) {s N : Nat} (hs : s < m) (hN : N ≤ 900) (a q : Int32) : ∀ (k j : Nat) (B' : mj_I) (D : Nat → Nat), k + j ≤ m → (∀ x, x ≠ 58 → B' x = B x) → rq_t6 m B' D → D s ≤ N → rq_bd m (N + 2) D → (∀ x, x ≠ 58 → s_X6_f3 a q m s k j B' x = B x) ∧ rq_t6 m (s_X6_f3 a q m s k j B') (rq_L3 (rq_ed A cc) (rq_w A cc) s k j D) ∧ rq_bd m (N + 2) (rq_L3 (rq_ed A cc) (rq_w A cc) s k j D) := by
  intro k
  induction k with
  | zero => intro j B' D _ h1 h2 _ h4; exact ⟨h1, h2, h4⟩
  | succ k ih =>
    intro j B' D hj h1 h2 h3 h4
    have d1 := h2 s hs
    have hjm : j < m := by omega
    have d2 := h2 j hjm
    obtain ⟨v1, v2⟩ := rq_wv hC hs hjm
    have em : s_X6_mayGo (nI s) (nI j) B' = bI (sp_can (A (cc + 2)) (nI s) (nI j)) := by
      rw [← rq_mg hC hs]
      unfold s_X6_mayGo
      rw [h1 47 (by decide)]
    have ec : s_X6_colds (nI s) (nI j) B' = nI (rq_w A cc s j) := by
      rw [← v1, ← rq_cold hC hs hjm]
      unfold s_X6_colds
      rw [h1 46 (by decide)]
    have es : B' 58 (nI s) = nI (D s) := by rw [d1.1]; exact if_neg (by omega)
    rw [s_X6_f3, rq_L3_1, if_neg (show ¬ B' 58 (nI s) = -9 by rw [d1.1, rq_cd9 d1.2]; omega), em, ec, es, d2.1, nI_add]
    by_cases hsj : s = j
    · subst hsj
      have e0 : sp_can (A (cc + 2)) (nI s) (nI s) = true := if_pos rfl
      rw [e0, if_neg (show ¬ bI true = 0 by decide), if_neg (by rw [rq_cd9 d2.2]; omega), show rq_cd (D s) = nI (D s) from if_neg (by omega), if_neg (fun hh => by have := (nI_ltI (by omega) (by omega)).mp hh; omega), show rq_st (rq_ed A cc) (rq_w A cc) s s D = D from if_neg (fun g => by have := rq_irr hm hC hs; rw [this] at g; exact absurd g.1 (by decide))]
      exact ih (s + 1) B' D (by omega) h1 h2 h3 h4
    · have hne : ¬ nI s = nI j := fun hh => hsj ((rq_nIe (by omega) (by omega)).mp hh)
      have e0 : sp_can (A (cc + 2)) (nI s) (nI j) = rq_ed A cc s j := if_neg hne
      rw [e0]
      have upd : ∀ v : Nat, v ≤ N + 2 → (rq_st (rq_ed A cc) (rq_w A cc) s j D = rq_U D j v) → (∀ x, x ≠ 58 → s_X6_f3 a q m s k (j + 1) (mj_upI B' 58 (nI j) (nI v)) x = B x) ∧ rq_t6 m (s_X6_f3 a q m s k (j + 1) (mj_upI B' 58 (nI j) (nI v))) (rq_L3 (rq_ed A cc) (rq_w A cc) s k (j + 1) (rq_st (rq_ed A cc) (rq_w A cc) s j D)) ∧ rq_bd m (N + 2) (rq_L3 (rq_ed A cc) (rq_w A cc) s k (j + 1) (rq_st (rq_ed A cc) (rq_w A cc) s j D)) := by
        intro v hv hst
        rw [hst]
        refine ih (j + 1) _ _ (by omega) (fun x hx => by rw [mj_upI_ne hx, h1 x hx]) (fun t ht => ?_) ?_ (fun t ht => ?_)
        · unfold rq_U
          rw [mj_upI_eq]
          by_cases htj : t = j
          · rw [if_pos (by rw [htj]), if_pos htj]
            exact ⟨(if_neg (by omega)).symm, by omega⟩
          · rw [if_neg (fun hh => htj ((rq_nIe (by omega) (by omega)).mp hh)), if_neg htj]
            exact h2 t ht
        · unfold rq_U
          rw [if_neg hsj]; exact h3
        · unfold rq_U
          by_cases htj : t = j
          · rw [if_pos htj]; exact Or.inr hv
          · rw [if_neg htj]; exact h4 t ht
      cases he : rq_ed A cc s j with
      | false =>
        rw [if_pos (show bI false = 0 from rfl), show rq_st (rq_ed A cc) (rq_w A cc) s j D = D from if_neg (fun g => by rw [he] at g; exact absurd g.1 (by decide))]
        exact ih (j + 1) B' D (by omega) h1 h2 h3 h4
      | true =>
        rw [if_neg (show ¬ bI true = 0 by decide)]
        have est : rq_st (rq_ed A cc) (rq_w A cc) s j D = rq_U D j (min (D j) (D s + rq_w A cc s j)) := if_pos ⟨he, by omega⟩
        by_cases h9 : D j = 1000
        · rw [if_pos ((rq_cd9 d2.2).mpr h9)]
          exact upd (D s + rq_w A cc s j) (by omega) (by rw [est, Nat.min_eq_right (by omega)])
        · have h4j := h4 j hjm
          rw [if_neg (fun g => h9 ((rq_cd9 d2.2).mp g)), show rq_cd (D j) = nI (D j) from if_neg h9]
          by_cases hl : nI (D s + rq_w A cc s j) < nI (D j)
          · have := (nI_ltI (by omega) (by omega)).mp hl
            rw [if_pos hl]
            exact upd (D s + rq_w A cc s j) (by omega) (by rw [est, Nat.min_eq_right (by omega)])
          · have : ¬ D s + rq_w A cc s j < D j := fun g => hl ((nI_ltI (by omega) (by omega)).mpr g)
            have e2 : rq_st (rq_ed A cc) (rq_w A cc) s j D = D := by
              rw [est, Nat.min_eq_left (by omega)]
              funext x
              unfold rq_U
              by_cases hx : x = j
              · rw [if_pos hx, hx]
              · rw [if_neg hx]
            rw [if_neg hl, e2]
            exact ih (j + 1) B' D (by omega) h1 h2 h3 h4
theorem rq_6s (hm : m ≤ 6) (hC : mj_rC cc m A B) {s N : Nat} (hs : s < m) (hN : N ≤ 900) (a q : Int32) (B' : mj_I) (D : Nat → Nat) (h1 : ∀ x, x ≠ 58 → B' x = B x) (h2 : rq_t6 m B' D) (h4 : rq_bd m N D) : (∀ x, x ≠ 58 → s_X6_f3 a q m s m 0 B' x = B x) ∧ rq_t6 m (s_X6_f3 a q m s m 0 B') (rq_L3 (rq_ed A cc) (rq_w A cc) s m 0 D) ∧ rq_bd m (N + 2) (rq_L3 (rq_ed A cc) (rq_w A cc) s m 0 D) := by
  have h5 : rq_bd m (N + 2) D := fun t ht => by have := h4 t ht; omega
  by_cases h : D s = 1000
  · have e : s_X6_f3 a q m s m 0 B' = B' := by
      obtain ⟨k, rfl⟩ : ∃ k, m = k + 1 := ⟨m - 1, by omega⟩
      rw [s_X6_f3, if_pos]
      rw [(h2 s hs).1]
      exact if_pos h
    rw [e, rq_L3_far (by omega)]
    exact ⟨h1, h2, h5⟩
  · have := h4 s hs
    exact rq_6c hm hC hs hN a q m 0 B' D (by omega) h1 h2 (by omega) h5
theorem rq_6r (hm : m ≤ 6) (hC : mj_rC cc m A B) (a q : Int32) : ∀ (k j N : Nat) (B' : mj_I) (D : Nat → Nat), k + j ≤ m → N + 2 * k ≤ 900 → (∀ x, x ≠ 58 → B' x = B x) → rq_t6 m B' D → rq_bd m N D → (∀ x, x ≠ 58 → s_X6_f2 a q m k j B' x = B x) ∧ rq_t6 m (s_X6_f2 a q m k j B') (rq_L2 (rq_ed A cc) (rq_w A cc) m k j D) ∧ rq_bd m (N + 2 * k) (rq_L2 (rq_ed A cc) (rq_w A cc) m k j D) := by
  intro k
  induction k with
  | zero => intro j N B' D _ _ h1 h2 h4; exact ⟨h1, h2, h4⟩
  | succ k ih =>
    intro j N B' D hj hN h1 h2 h4
    rw [s_X6_f2, rq_L2]
    obtain ⟨i1, i2, i3⟩ := rq_6s hm hC (show j < m by omega) (by omega) a q B' D h1 h2 h4
    have := ih (j + 1) (N + 2) _ _ (by omega) (by omega) i1 i2 i3
    rw [show N + 2 * (k + 1) = N + 2 + 2 * k by omega]
    exact this
theorem rq_6t (hm : m ≤ 6) (hC : mj_rC cc m A B) (a : Int32) : ∀ (k j N : Nat) (B' : mj_I) (D : Nat → Nat), N + 12 * k ≤ 900 → (∀ x, x ≠ 58 → B' x = B x) → rq_t6 m B' D → rq_bd m N D → (∀ x, x ≠ 58 → s_X6_f1 a m k j B' x = B x) ∧ rq_t6 m (s_X6_f1 a m k j B') (rq_L1 (rq_ed A cc) (rq_w A cc) m k D) := by
  intro k
  induction k with
  | zero => intro j N B' D _ h1 h2 _; exact ⟨h1, h2⟩
  | succ k ih =>
    intro j N B' D hN h1 h2 h4
    rw [s_X6_f1, rq_L1]
    obtain ⟨i1, i2, i3⟩ := rq_6r hm hC a (nI j) m 0 N B' D (by omega) (by omega) h1 h2 h4
    exact ih (j + 1) (N + 12) _ _ (by omega) i1 i2 (fun t ht => by have := i3 t ht; omega)
theorem rq_60s {a : Nat} (ha : a < 1000) : ∀ (k j : Nat) (B' : mj_I), k + j = m → m < 1000 → (∀ t, t < j → B' 58 (nI t) = rq_cd (rq_D0 a t)) → (∀ x, x ≠ 58 → s_X6_f0 (nI a) m k j B' x = B' x) ∧ ∀ t, t < m → s_X6_f0 (nI a) m k j B' 58 (nI t) = rq_cd (rq_D0 a t) := by
  intro k
  induction k with
  | zero =>
    intro j B' hj _ h
    have : j = m := by omega
    subst this
    exact ⟨fun _ _ => rfl, h⟩
  | succ k ih =>
    intro j B' hj hm h
    have step : s_X6_f0 (nI a) m (k + 1) j B' = s_X6_f0 (nI a) m k (j + 1) (mj_upI B' 58 (nI j) (rq_cd (rq_D0 a j))) := by
      rw [s_X6_f0]
      unfold rq_D0
      by_cases hja : j = a
      · rw [if_pos (by rw [hja]), if_pos hja]; rfl
      · rw [if_neg (fun hh => hja ((rq_nIe (by omega) (by omega)).mp hh)), if_neg hja]; rfl
    rw [step]
    obtain ⟨i1, i2⟩ := ih (j + 1) (mj_upI B' 58 (nI j) (rq_cd (rq_D0 a j))) (by omega) hm (fun t ht => by
      rw [mj_upI_eq]
      by_cases htj : t = j
      · rw [if_pos (by rw [htj]), htj]
      · rw [if_neg (fun hh => htj ((rq_nIe (by omega) (by omega)).mp hh))]; exact h t (by omega))
    exact ⟨fun x hx => by rw [i1 x hx, mj_upI_ne hx], i2⟩
theorem rq_6 (hm : m ≤ 6) (hC : mj_rC cc m A B) {a : Nat} (ha : a < m) (B' : mj_I) (h1 : ∀ x, x ≠ 58 → B' x = B x) : (∀ x, x ≠ 58 → s_X6_findColds (nI a) m B' x = B x) ∧ rq_t6 m (s_X6_findColds (nI a) m B') (rq_T A cc m a) := by
  unfold s_X6_findColds rq_T
  rw [← rq_conv _ _ ha]
  obtain ⟨i1, i2⟩ := rq_60s (m := m) (a := a) (by omega) m 0 B' (by omega) (by omega) (fun t ht => absurd ht (by omega))
  refine rq_6t hm hC (nI a) m 0 0 _ _ (by omega) (fun x hx => by rw [i1 x hx, h1 x hx]) (fun t ht => ⟨i2 t ht, ?_⟩) (fun t ht => ?_)
  · unfold rq_D0
    by_cases h : t = a
    · rw [if_pos h]; omega
    · rw [if_neg h]; omega
  · unfold rq_D0
    by_cases h : t = a
    · rw [if_pos h]; exact Or.inr (by omega)
    · rw [if_neg h]; exact Or.inl rfl
/-- the most -/
def rq_mx (D : Nat → Nat) : Nat → Nat → Nat → Nat
  | 0, _, g => g
  | k + 1, j, g => rq_mx D k (j + 1) (max g (D j))
theorem rq_mx_ge {D : Nat → Nat} : ∀ k j g, g ≤ rq_mx D k j g := by
  intro k
  induction k with
  | zero => intro j g; exact Nat.le_refl _
  | succ k ih => intro j g; rw [rq_mx]; exact Nat.le_trans (Nat.le_max_left _ _) (ih _ _)
theorem rq_mx_le {D : Nat → Nat} (hD : ∀ t, t < m → D t ≤ 1000) : ∀ k j g, k + j ≤ m → g ≤ 1000 → rq_mx D k j g ≤ 1000 := by
  intro k
  induction k with
  | zero => intro j g _ h; exact h
  | succ k ih => intro j g hj h; rw [rq_mx]; exact ih _ _ (by omega) (by have := hD j (by omega); omega)
theorem rq_5m {A' : mj_I} {D : Nat → Nat} (h : rq_t5 m A' D) (a : Int32) : ∀ (k j g : Nat), k + j ≤ m → g ≤ 1000 → s_X5_mc cc m a A' k j (nI g) = nI (rq_mx D k j g) := by
  intro k
  induction k with
  | zero => intros; rfl
  | succ k ih =>
    intro j g hj hg
    obtain ⟨d1, d2⟩ := h j (by omega)
    rw [s_X5_mc, rq_mx, d1, rq_max (by omega) (by omega), ih (j + 1) _ (by omega) (by omega)]
theorem rq_6m {B' : mj_I} {D : Nat → Nat} (h : rq_t6 m B' D) (a : Int32) : ∀ (k j g : Nat), k + j ≤ m → g < 1000 → s_X6_mf m a B' k j (nI g) = rq_cd (rq_mx D k j g) := by
  intro k
  induction k with
  | zero => intro j g _ hg; exact (show rq_cd g = nI g from if_neg (by omega)).symm
  | succ k ih =>
    intro j g hj hg
    obtain ⟨d1, d2⟩ := h j (by omega)
    rw [s_X6_mf, rq_mx, d1]
    by_cases h9 : D j = 1000
    · have a1 := rq_mx_ge (D := D) k (j + 1) (max g (D j))
      have a2 := rq_mx_le (m := m) (D := D) (fun t ht => (h t ht).2) k (j + 1) (max g (D j)) (by omega) (by omega)
      rw [if_pos ((rq_cd9 d2).mpr h9)]
      exact (if_pos (by omega)).symm
    · rw [if_neg (fun q => h9 ((rq_cd9 d2).mp q)), show rq_cd (D j) = nI (D j) from if_neg h9]
      by_cases hl : nI g < nI (D j)
      · have := (nI_ltI (by omega) (by omega)).mp hl
        rw [if_pos hl, ih (j + 1) _ (by omega) (by omega), Nat.max_eq_right (by omega)]
      · have : ¬ g < D j := fun q => hl ((nI_ltI (by omega) (by omega)).mpr q)
        rw [if_neg hl, ih (j + 1) _ (by omega) hg, Nat.max_eq_left (by omega)]
theorem rq_bb (hm : m ≤ 6) (hcc : cc = 2 ∨ cc = 10) (hC : mj_rC cc m A B) : ∀ (k j : Nat) (g f f6 : Int32) (x : Nat) (A' B' : mj_I), k + j ≤ m → (∀ x, x ≠ 31 → A' x = A x) → (∀ x, x ≠ 58 → B' x = B x) → f = nI x → x ≤ 1000 → ((x = 1000 ∧ g = -9) ∨ (x < 1000 ∧ ¬ g = -9 ∧ f6 = nI x)) → (s_X5_be cc m k j g f A').1 = (s_X6_be m k j g f6 B').1 ∧ (∀ x, x ≠ 31 → (s_X5_be cc m k j g f A').2 x = A x) ∧ (∀ x, x ≠ 58 → (s_X6_be m k j g f6 B').2 x = B x) := by
  intro k
  induction k with
  | zero => intro j g f f6 x A' B' _ h1 h2 _ _ _; exact ⟨rfl, h1, h2⟩
  | succ k ih =>
    intro j g f f6 x A' B' hj h1 h2 hf hx hg
    obtain ⟨i1, i2⟩ := rq_5 hm hcc hC (show j < m by omega) A' h1
    obtain ⟨k1, k2⟩ := rq_6 hm hC (show j < m by omega) B' h2
    have m5 : (s_X5_mostColds cc m (nI j) A').1 = nI (rq_mx (rq_T A cc m j) m 0 0) := rq_5m i2 (nI j) m 0 0 (by omega) (by omega)
    have m6 : (s_X6_mostFrom m (nI j) B').1 = rq_cd (rq_mx (rq_T A cc m j) m 0 0) := rq_6m k2 (nI j) m 0 0 (by omega) (by omega)
    have ml := rq_mx_le (m := m) (D := rq_T A cc m j) (fun t ht => (i2 t ht).2) m 0 0 (by omega) (by omega)
    have i1' : ∀ x, x ≠ 31 → (s_X5_mostColds cc m (nI j) A').2 x = A x := i1
    have k1' : ∀ x, x ≠ 58 → (s_X6_mostFrom m (nI j) B').2 x = B x := k1
    rw [s_X5_be, s_X6_be, m5, m6, hf]
    generalize rq_mx (rq_T A cc m j) m 0 0 = M at *
    by_cases hM : M = 1000
    · rw [if_neg (fun q => by have := (nI_ltI (by omega) (by omega)).mp q; omega), if_pos ((rq_cd9 ml).mpr hM)]
      exact ih (j + 1) g _ f6 x _ _ (by omega) i1' k1' rfl hx hg
    · rw [if_neg (fun q => hM ((rq_cd9 ml).mp q)), show rq_cd M = nI M from if_neg hM]
      rcases hg with ⟨g1, g2⟩ | ⟨g1, g2, g3⟩
      · rw [if_pos ((nI_ltI (by omega) (by omega)).mpr (by omega)), if_pos g2]
        exact ih (j + 1) _ _ _ M _ _ (by omega) i1' k1' rfl ml (Or.inr ⟨by omega, rq_m9 (by omega), rfl⟩)
      · rw [if_neg g2, g3]
        by_cases hl : nI M < nI x
        · rw [if_pos hl, if_pos hl]
          exact ih (j + 1) _ _ _ M _ _ (by omega) i1' k1' rfl ml (Or.inr ⟨by omega, rq_m9 (by omega), rfl⟩)
        · rw [if_neg hl, if_neg hl]
          exact ih (j + 1) g _ _ x _ _ (by omega) i1' k1' rfl hx (Or.inr ⟨g1, g2, rfl⟩)
end VM
section VN
variable {cc m p R : Nat} {A B : mj_I}
theorem rq_RL_k {A' B' : mj_I} (hc : cc = 2 ∨ cc = 10) (h : mj_RL cc m p R A B) (hA : ∀ x, x ≠ 31 → A' x = A x) (hB : ∀ x, x ≠ 58 → B' x = B x) : mj_RL cc m p R A' B' := by
  refine rq_RL_s hc h (fun x hx => hA x (by omega)) ?_ ?_ (fun x hx => hB x (by omega)) ?_ ?_
  · rw [hA 1 (by decide)]; exact ⟨rfl, rfl⟩
  · intro t ht
    rw [hA 22 (by decide)]; exact rq_RL_E h t ht
  · rw [hB 42 (by decide)]; exact ⟨rfl, rfl, rfl, rfl, rfl⟩
  · rw [hB 42 (by decide), hA 1 (by decide)]; exact h.2.2.1.2
theorem rq_v_mild (hc : cc = 2 ∨ cc = 10) (h : mj_RL cc m p R A B) (a e : Int32) : rq_V cc (s_X5_mild cc m a e A) (s_X6_mild m a e B) := by
  have hm := h.1.1
  unfold s_X5_mild s_X6_mild
  rw [rq_st_eq h.2.1.1.2, rq_st_eq h.2.1.1.2, h.2.1.1.1]
  rcases rq_has (n := m) (by omega) a with ⟨a, ha, rfl, q⟩ | q
  · rw [q, if_pos (show (true : Bool) = true from rfl), if_neg (show ¬ bI true = 0 by decide)]
    rcases rq_has (n := m) (by omega) e with ⟨e, he, rfl, q2⟩ | q2
    · rw [q2, if_pos (show (true : Bool) = true from rfl), if_neg (show ¬ bI true = 0 by decide)]
      obtain ⟨i1, i2⟩ := rq_5 hm hc h.2.2.2.1 ha A (fun _ _ => rfl)
      obtain ⟨k1, k2⟩ := rq_6 hm h.2.2.2.1 ha B (fun _ _ => rfl)
      have RR := rq_RL_k hc h i1 k1
      obtain ⟨v1, v2⟩ := i2 e he
      rw [v1, (k2 e he).1]
      by_cases h9 : rq_T A cc m a e = 1000
      · rw [if_pos ((rq_k1 (by omega)).mpr h9)]
        exact rq_Vi (if_pos h9).symm RR
      · rw [if_neg (fun g => h9 ((rq_k1 (by omega)).mp g))]
        exact rq_Vi (if_neg h9).symm RR
    · rw [q2, if_neg (show ¬ (false : Bool) = true by decide), if_pos (show bI false = 0 from rfl)]
      exact rq_Vi rfl h
  · rw [q, if_neg (show ¬ (false : Bool) = true by decide), if_pos (show bI false = 0 from rfl)]
    exact rq_Vi rfl h
theorem rq_v_best (hc : cc = 2 ∨ cc = 10) (h : mj_RL cc m p R A B) : rq_V cc (s_X5_best cc m A) (s_X6_best m B) := by
  unfold s_X5_best s_X6_best
  rw [h.2.1.1.1, h.2.1.1.2]
  by_cases h0 : nI m = 0
  · rw [if_pos h0, if_pos h0]; exact rq_Vi rfl h
  · rw [if_neg h0, if_neg h0]
    obtain ⟨b1, b2, b3⟩ := rq_bb h.1.1 hc h.2.2.2.1 m 0 (-9) 1000 (-9) 1000 A B (by omega) (fun _ _ => rfl) (fun _ _ => rfl) rfl (by omega) (Or.inl ⟨rfl, rfl⟩)
    exact rq_Vi b1 (rq_RL_k hc h b2 b3)
end VN
