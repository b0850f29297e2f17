/-! the coldest walks: one round more changes nothing -/
def rq_U (D : Nat → Nat) (t v : Nat) : Nat → Nat := fun x => if x = t then v else D x
def rq_L3 (e : Nat → Nat → Bool) (w : Nat → Nat → Nat) (s : Nat) : Nat → Nat → (Nat → Nat) → Nat → Nat
  | 0, _, D => D
  | k + 1, j, D => rq_L3 e w s k (j + 1) (if e s j = true ∧ D s < 1000 then rq_U D j (min (D j) (D s + w s j)) else D)
def rq_L2 (e : Nat → Nat → Bool) (w : Nat → Nat → Nat) (m : Nat) : Nat → Nat → (Nat → Nat) → Nat → Nat
  | 0, _, D => D
  | k + 1, j, D => rq_L2 e w m k (j + 1) (rq_L3 e w j m 0 D)
def rq_L1 (e : Nat → Nat → Bool) (w : Nat → Nat → Nat) (m : Nat) : Nat → (Nat → Nat) → Nat → Nat
  | 0, D => D
  | k + 1, D => rq_L1 e w m k (rq_L2 e w m m 0 D)
def rq_Wk (e : Nat → Nat → Bool) (w : Nat → Nat → Nat) (m a : Nat) : Nat → Nat → Nat → Prop
  | 0, t, x => t = a ∧ x = 0
  | k + 1, t, x => ∃ s, s < m ∧ e s t = true ∧ ∃ y, rq_Wk e w m a k s y ∧ x = y + w s t
def rq_In (e : Nat → Nat → Bool) (w : Nat → Nat → Nat) (m a : Nat) (D : Nat → Nat) : Prop := ∀ t, t < m → D t ≤ 1000 ∧ (D t = 1000 ∨ ∃ k, rq_Wk e w m a k t (D t))
def rq_st (e : Nat → Nat → Bool) (w : Nat → Nat → Nat) (s j : Nat) (D : Nat → Nat) : Nat → Nat := if e s j = true ∧ D s < 1000 then rq_U D j (min (D j) (D s + w s j)) else D
theorem rq_st_le {e : Nat → Nat → Bool} {w : Nat → Nat → Nat} {s j : Nat} {D : Nat → Nat} (t : Nat) : rq_st e w s j D t ≤ D t := by
  unfold rq_st
  by_cases h : e s j = true ∧ D s < 1000
  · rw [if_pos h]
    unfold rq_U
    by_cases ht : t = j
    · rw [if_pos ht, ht]; omega
    · rw [if_neg ht]; omega
  · rw [if_neg h]; omega
theorem rq_L3_1 {e : Nat → Nat → Bool} {w : Nat → Nat → Nat} {s k j : Nat} {D : Nat → Nat} : rq_L3 e w s (k + 1) j D = rq_L3 e w s k (j + 1) (rq_st e w s j D) := rfl
theorem rq_L3_le {e : Nat → Nat → Bool} {w : Nat → Nat → Nat} {s : Nat} (t : Nat) : ∀ (k j : Nat) (D : Nat → Nat), rq_L3 e w s k j D t ≤ D t := by
  intro k
  induction k with
  | zero => intro j D; exact Nat.le_refl _
  | succ k ih => intro j D; rw [rq_L3_1]; exact Nat.le_trans (ih _ _) (rq_st_le t)
theorem rq_L2_le {e : Nat → Nat → Bool} {w : Nat → Nat → Nat} {m : Nat} (t : Nat) : ∀ (k j : Nat) (D : Nat → Nat), rq_L2 e w m k j D t ≤ D t := by
  intro k
  induction k with
  | zero => intro j D; exact Nat.le_refl _
  | succ k ih => intro j D; rw [rq_L2]; exact Nat.le_trans (ih _ _) (rq_L3_le t _ _ _)
theorem rq_st_in {e : Nat → Nat → Bool} {w : Nat → Nat → Nat} {m a s j : Nat} {D : Nat → Nat} (hs : s < m) (h : rq_In e w m a D) : rq_In e w m a (rq_st e w s j D) := by
  intro t ht
  obtain ⟨h1, h2⟩ := h t ht
  unfold rq_st
  by_cases hc : e s j = true ∧ D s < 1000
  · rw [if_pos hc]
    unfold rq_U
    by_cases htj : t = j
    · subst htj
      rw [if_pos rfl]
      refine ⟨by omega, ?_⟩
      rcases Nat.le_total (D t) (D s + w s t) with q | q
      · rw [Nat.min_eq_left q]; exact h2
      · rw [Nat.min_eq_right q]
        rcases (h s hs).2 with g | ⟨k, g⟩
        · omega
        · exact Or.inr ⟨k + 1, s, hs, hc.1, D s, g, rfl⟩
    · rw [if_neg htj]; exact ⟨h1, h2⟩
  · rw [if_neg hc]; exact ⟨h1, h2⟩
theorem rq_L3_in {e : Nat → Nat → Bool} {w : Nat → Nat → Nat} {m a s : Nat} (hs : s < m) : ∀ (k j : Nat) (D : Nat → Nat), rq_In e w m a D → rq_In e w m a (rq_L3 e w s k j D) := by
  intro k
  induction k with
  | zero => intro j D h; exact h
  | succ k ih => intro j D h; rw [rq_L3_1]; exact ih _ _ (rq_st_in hs h)
theorem rq_L2_in {e : Nat → Nat → Bool} {w : Nat → Nat → Nat} {m a : Nat} : ∀ (k j : Nat) (D : Nat → Nat), k + j ≤ m → rq_In e w m a D → rq_In e w m a (rq_L2 e w m k j D) := by
  intro k
  induction k with
  | zero => intro j D _ h; exact h
  | succ k ih => intro j D hj h; rw [rq_L2]; exact ih _ _ (by omega) (rq_L3_in (by omega) _ _ _ h)
theorem rq_L3_go {e : Nat → Nat → Bool} {w : Nat → Nat → Nat} {s t : Nat} (he : e s t = true) : ∀ (k j : Nat) (D : Nat → Nat), j ≤ t → t < j + k → D s < 1000 → rq_L3 e w s k j D t ≤ D s + w s t := by
  intro k
  induction k with
  | zero => intro j D h1 h2; omega
  | succ k ih =>
    intro j D h1 h2 h3
    rw [rq_L3_1]
    by_cases hjt : j = t
    · subst hjt
      refine Nat.le_trans (rq_L3_le _ _ _ _) ?_
      unfold rq_st
      rw [if_pos ⟨he, h3⟩]
      unfold rq_U
      rw [if_pos rfl]
      omega
    · have a := rq_st_le (e := e) (w := w) (s := s) (j := j) (D := D) s
      have q := ih (j + 1) (rq_st e w s j D) (by omega) (by omega) (by omega)
      omega
theorem rq_L2_go {e : Nat → Nat → Bool} {w : Nat → Nat → Nat} {m s t : Nat} (he : e s t = true) (ht : t < m) : ∀ (k j : Nat) (D : Nat → Nat), j ≤ s → s < j + k → D s < 1000 → rq_L2 e w m k j D t ≤ D s + w s t := by
  intro k
  induction k with
  | zero => intro j D h1 h2; omega
  | succ k ih =>
    intro j D h1 h2 h3
    rw [rq_L2]
    by_cases hjs : j = s
    · subst hjs
      exact Nat.le_trans (rq_L2_le _ _ _ _) (rq_L3_go he m 0 D (by omega) (by omega) h3)
    · have a := rq_L3_le (e := e) (w := w) (s := j) s m 0 D
      have q := ih (j + 1) (rq_L3 e w j m 0 D) (by omega) (by omega) (by omega)
      omega
theorem rq_least (P : Nat → Prop) : ∀ n, P n → ∃ k, P k ∧ ∀ j, P j → k ≤ j := by
  intro n
  induction n using Nat.strongRecOn with
  | ind n ih =>
    intro h
    by_cases q : ∃ j, j < n ∧ P j
    · obtain ⟨j, h1, h2⟩ := q
      exact ih j h1 h2
    · refine ⟨n, h, fun j hj => ?_⟩
      rcases Nat.lt_or_ge j n with g | g
      · exact absurd ⟨j, g, hj⟩ q
      · exact g
theorem rq_true (e : Nat → Nat → Bool) (w : Nat → Nat → Nat) (m a : Nat) : ∃ F : Nat → Nat, ∀ t, F t ≤ 1000 ∧ (F t < 1000 → ∃ k, rq_Wk e w m a k t (F t)) ∧ ∀ k x, rq_Wk e w m a k t x → F t ≤ x := by
  have key : ∀ t, ∃ f : Nat, f ≤ 1000 ∧ (f < 1000 → ∃ k, rq_Wk e w m a k t f) ∧ ∀ k x, rq_Wk e w m a k t x → f ≤ x := by
    intro t
    obtain ⟨f, h1, h2⟩ := rq_least (fun x => x = 1000 ∨ ∃ k, rq_Wk e w m a k t x) 1000 (Or.inl rfl)
    refine ⟨f, h2 1000 (Or.inl rfl), fun hf => ?_, fun k x hx => h2 x (Or.inr ⟨k, hx⟩)⟩
    rcases h1 with q | q
    · omega
    · exact q
  exact ⟨fun t => Classical.choose (key t), fun t => Classical.choose_spec (key t)⟩
/-- how many are not yet right -/
def rq_ct (D F : Nat → Nat) : Nat → Nat
  | 0 => 0
  | n + 1 => rq_ct D F n + if D n = F n then 0 else 1
theorem rq_ct_le {D D' F : Nat → Nat} : ∀ n, (∀ t, t < n → D t = F t → D' t = F t) → rq_ct D' F n ≤ rq_ct D F n := by
  intro n
  induction n with
  | zero => intro _; exact Nat.le_refl _
  | succ n ih =>
    intro h
    have a := ih (fun t ht => h t (by omega))
    have q := h n (by omega)
    rw [rq_ct, rq_ct]
    by_cases hD : D n = F n
    · rw [if_pos hD, if_pos (q hD)]; omega
    · rw [if_neg hD]
      by_cases hD' : D' n = F n
      · rw [if_pos hD']; omega
      · rw [if_neg hD']; omega
theorem rq_ct_lt {D D' F : Nat → Nat} {t : Nat} (h1 : ¬ D t = F t) (h2 : D' t = F t) : ∀ n, t < n → (∀ t, t < n → D t = F t → D' t = F t) → rq_ct D' F n < rq_ct D F n := by
  intro n
  induction n with
  | zero => intro h; omega
  | succ n ih =>
    intro ht h
    rw [rq_ct, rq_ct]
    by_cases htn : t = n
    · subst htn
      have a := rq_ct_le (D := D) (D' := D') (F := F) t (fun x hx => h x (by omega))
      rw [if_neg h1, if_pos h2]; omega
    · have a := ih (by omega) (fun x hx => h x (by omega))
      have q := h n (by omega)
      by_cases hD : D n = F n
      · rw [if_pos hD, if_pos (q hD)]; omega
      · rw [if_neg hD]
        by_cases hD' : D' n = F n
        · rw [if_pos hD']; omega
        · rw [if_neg hD']; omega
theorem rq_ct_0 {D F : Nat → Nat} : ∀ n, rq_ct D F n = 0 → ∀ t, t < n → D t = F t := by
  intro n
  induction n with
  | zero => intro _ t ht; omega
  | succ n ih =>
    intro h t ht
    rw [rq_ct] at h
    by_cases htn : t = n
    · subst htn
      by_cases q : D t = F t
      · exact q
      · rw [if_neg q] at h; omega
    · exact ih (by omega) t (by omega)
theorem rq_ct_n {D F : Nat → Nat} : ∀ n, rq_ct D F n ≤ n := by
  intro n
  induction n with
  | zero => exact Nat.le_refl _
  | succ n ih =>
    rw [rq_ct]
    by_cases q : D n = F n
    · rw [if_pos q]; omega
    · rw [if_neg q]; omega
theorem rq_ct_a {D F : Nat → Nat} {a : Nat} (h : D a = F a) : ∀ n, a < n → rq_ct D F n + 1 ≤ n := by
  intro n
  induction n with
  | zero => intro h; omega
  | succ n ih =>
    intro ha
    rw [rq_ct]
    by_cases han : a = n
    · subst han
      have := rq_ct_n (D := D) (F := F) a
      rw [if_pos h]; omega
    · have := ih (by omega)
      by_cases q : D n = F n
      · rw [if_pos q]; omega
      · rw [if_neg q]; omega
section VK
variable {e : Nat → Nat → Bool} {w : Nat → Nat → Nat} {m a : Nat} {F : Nat → Nat}
theorem rq_rnd (hF : ∀ t, F t ≤ 1000 ∧ (F t < 1000 → ∃ k, rq_Wk e w m a k t (F t)) ∧ ∀ k x, rq_Wk e w m a k t x → F t ≤ x) {D : Nat → Nat} (hD : rq_In e w m a D) (h0 : D a = 0) : rq_ct (rq_L2 e w m m 0 D) F m ≤ rq_ct D F m - 1 := by
  have ge : ∀ D' : Nat → Nat, rq_In e w m a D' → ∀ t, t < m → F t ≤ D' t := by
    intro D' hD' t ht
    rcases (hD' t ht).2 with q | ⟨k, q⟩
    · rw [q]; exact (hF t).1
    · exact (hF t).2.2 k _ q
  have hL := rq_L2_in m 0 D (by omega) hD
  have keep : ∀ t, t < m → D t = F t → rq_L2 e w m m 0 D t = F t := by
    intro t ht h
    have := rq_L2_le (e := e) (w := w) (m := m) t m 0 D
    have := ge _ hL t ht
    omega
  by_cases hex : ∃ k, ∃ t, t < m ∧ ¬ D t = F t ∧ rq_Wk e w m a k t (F t)
  · obtain ⟨k0, hk0⟩ := hex
    obtain ⟨k, ⟨t, ht, hne, hW⟩, hmin⟩ := rq_least (fun k => ∃ t, t < m ∧ ¬ D t = F t ∧ rq_Wk e w m a k t (F t)) k0 hk0
    cases k with
    | zero =>
      obtain ⟨q1, q2⟩ := hW
      rw [q1] at hne q2
      omega
    | succ k =>
      obtain ⟨s, hs, he, y, hy, hFt⟩ := hW
      have lt : F t < 1000 := by
        have := ge D hD t ht
        have := (hD t ht).1
        omega
      have Fs : F s = y := by
        have a1 := (hF s).2.2 k y hy
        have a3 : F s < 1000 := by omega
        obtain ⟨k2, hk2⟩ := (hF s).2.1 a3
        have a2 := (hF t).2.2 (k2 + 1) (F s + w s t) ⟨s, hs, he, F s, hk2, rfl⟩
        omega
      have sset : D s = F s := by
        by_cases q : D s = F s
        · exact q
        · have := hmin k ⟨s, hs, q, by rw [Fs]; exact hy⟩
          omega
      have go := rq_L2_go (e := e) (w := w) (m := m) he ht m 0 D (by omega) (by omega) (by omega)
      have := ge _ hL t ht
      have := rq_ct_lt (D := D) (D' := rq_L2 e w m m 0 D) (F := F) hne (by omega) m ht keep
      omega
  · have all : ∀ t, t < m → D t = F t := by
      intro t ht
      by_cases q : D t = F t
      · exact q
      · have h1 := ge D hD t ht
        have h2 := (hD t ht).1
        obtain ⟨k, hk⟩ := (hF t).2.1 (by omega)
        exact absurd ⟨k, t, ht, q, hk⟩ hex
    have z : ∀ n, n ≤ m → rq_ct (rq_L2 e w m m 0 D) F n = 0 := by
      intro n
      induction n with
      | zero => intro _; rfl
      | succ n ih =>
        intro hn
        rw [rq_ct, ih (by omega), if_pos (keep n (by omega) (all n (by omega)))]
    rw [z m (Nat.le_refl _)]
    omega
theorem rq_L1_1 : ∀ (k : Nat) (D : Nat → Nat), rq_L1 e w m (k + 1) D = rq_L2 e w m m 0 (rq_L1 e w m k D) := by
  intro k
  induction k with
  | zero => intro D; rfl
  | succ k ih => intro D; rw [rq_L1, ih]; rfl
theorem rq_L1_in (ha : a < m) : ∀ (k : Nat) (D : Nat → Nat), rq_In e w m a D → D a = 0 → rq_In e w m a (rq_L1 e w m k D) ∧ rq_L1 e w m k D a = 0 := by
  intro k
  induction k with
  | zero => intro D h h2; exact ⟨h, h2⟩
  | succ k ih =>
    intro D h h2
    rw [rq_L1]
    refine ih _ (rq_L2_in m 0 D (by omega) h) ?_
    have := rq_L2_le (e := e) (w := w) (m := m) a m 0 D
    omega
theorem rq_L1_ct (ha : a < m) (hF : ∀ t, F t ≤ 1000 ∧ (F t < 1000 → ∃ k, rq_Wk e w m a k t (F t)) ∧ ∀ k x, rq_Wk e w m a k t x → F t ≤ x) : ∀ (k : Nat) (D : Nat → Nat), rq_In e w m a D → D a = 0 → rq_ct (rq_L1 e w m k D) F m ≤ rq_ct D F m - k := by
  intro k
  induction k with
  | zero => intro D _ _; exact Nat.le_refl _
  | succ k ih =>
    intro D h h0
    rw [rq_L1_1]
    obtain ⟨i1, i2⟩ := rq_L1_in (e := e) (w := w) ha k D h h0
    have a1 := rq_rnd hF i1 i2
    have a2 := ih D h h0
    omega
theorem rq_fixst (hF : ∀ t, F t ≤ 1000 ∧ (F t < 1000 → ∃ k, rq_Wk e w m a k t (F t)) ∧ ∀ k x, rq_Wk e w m a k t x → F t ≤ x) {D : Nat → Nat} (hD : ∀ t, t < m → D t = F t) {s j : Nat} (hs : s < m) (hj : j < m) : rq_st e w s j D = D := by
  unfold rq_st
  by_cases h : e s j = true ∧ D s < 1000
  · rw [if_pos h]
    funext x
    unfold rq_U
    by_cases hx : x = j
    · subst hx
      rw [if_pos rfl]
      have e1 := hD s hs
      have e2 := hD x hj
      obtain ⟨k, hk⟩ := (hF s).2.1 (by omega)
      have := (hF x).2.2 (k + 1) (F s + w s x) ⟨s, hs, h.1, F s, hk, rfl⟩
      omega
    · rw [if_neg hx]
  · rw [if_neg h]
theorem rq_fix3 (hF : ∀ t, F t ≤ 1000 ∧ (F t < 1000 → ∃ k, rq_Wk e w m a k t (F t)) ∧ ∀ k x, rq_Wk e w m a k t x → F t ≤ x) {D : Nat → Nat} (hD : ∀ t, t < m → D t = F t) {s : Nat} (hs : s < m) : ∀ k j, k + j ≤ m → rq_L3 e w s k j D = D := by
  intro k
  induction k with
  | zero => intro j _; rfl
  | succ k ih => intro j hj; rw [rq_L3_1, rq_fixst hF hD hs (by omega), ih (j + 1) (by omega)]
theorem rq_fix2 (hF : ∀ t, F t ≤ 1000 ∧ (F t < 1000 → ∃ k, rq_Wk e w m a k t (F t)) ∧ ∀ k x, rq_Wk e w m a k t x → F t ≤ x) {D : Nat → Nat} (hD : ∀ t, t < m → D t = F t) : ∀ k j, k + j ≤ m → rq_L2 e w m k j D = D := by
  intro k
  induction k with
  | zero => intro j _; rfl
  | succ k ih => intro j hj; rw [rq_L2, rq_fix3 hF hD (by omega) m 0 (by omega), ih (j + 1) (by omega)]
end VK
def rq_D0 (a : Nat) : Nat → Nat := fun t => if t = a then 0 else 1000
/-- m rounds find what m - 1 rounds find -/
theorem rq_conv (e : Nat → Nat → Bool) (w : Nat → Nat → Nat) {m a : Nat} (ha : a < m) : rq_L1 e w m m (rq_D0 a) = rq_L1 e w m (m - 1) (rq_D0 a) := by
  obtain ⟨F, hF⟩ := rq_true e w m a
  have i0 : rq_In e w m a (rq_D0 a) := by
    intro t _
    unfold rq_D0
    by_cases h : t = a
    · rw [if_pos h]; exact ⟨by omega, Or.inr ⟨0, h, rfl⟩⟩
    · rw [if_neg h]; exact ⟨by omega, Or.inl rfl⟩
  have z0 : rq_D0 a a = 0 := if_pos rfl
  have fa : rq_D0 a a = F a := by
    have := (hF a).2.2 0 0 ⟨rfl, rfl⟩
    omega
  have c0 := rq_ct_a (D := rq_D0 a) (F := F) fa m ha
  have c1 := rq_L1_ct ha hF (m - 1) (rq_D0 a) i0 z0
  have right := rq_ct_0 (D := rq_L1 e w m (m - 1) (rq_D0 a)) (F := F) m (by omega)
  have fx := rq_fix2 hF right m 0 (by omega)
  obtain ⟨k, rfl⟩ : ∃ k, m = k + 1 := ⟨m - 1, by omega⟩
  rw [show rq_L1 e w (k + 1) (k + 1) (rq_D0 a) = rq_L2 e w (k + 1) (k + 1) 0 (rq_L1 e w (k + 1) k (rq_D0 a)) from rq_L1_1 k _]
  exact fx
