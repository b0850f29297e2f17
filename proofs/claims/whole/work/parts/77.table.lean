/-! the quickest: the table of days to go -/
def rq_cn (A : mj_I) (cc m : Nat) : Nat → Nat → Prop
  | 0, x => x / 6 = 342
  | d + 1, x => rq_cn A cc m d x ∨ ∃ t, t < m ∧ rq_E A cc (x % 6) t = true ∧ rq_cn A cc m d (rq_bv A cc x t)
def rq_mn (A : mj_I) (cc : Nat) (T : Nat → Nat) (x : Nat) : Nat → Nat → Nat → Nat
  | 0, _, g => g
  | k + 1, j, g => rq_mn A cc T x k (j + 1) (if rq_E A cc (x % 6) j = true then min g (T (rq_bv A cc x j)) else g)
/-- the table, at the numbers that are states -/
def rq_tb (A : mj_I) (cc m p : Nat) (I : mj_I) (T : Nat → Nat) : Prop := ∀ y, y < 2058 → rq_okv A cc m p y → I 57 (nI y) = rq_cd (T y) ∧ T y ≤ 1000
/-- right up to a day -/
def rq_ri (A : mj_I) (cc m p e : Nat) (T : Nat → Nat) : Prop := ∀ y, y < 2058 → rq_okv A cc m p y → (T y = 1000 ∧ ¬ rq_cn A cc m e y) ∨ (T y ≤ e ∧ rq_cn A cc m (T y) y ∧ ∀ d, d < T y → ¬ rq_cn A cc m d y)
section VT
variable {cc m p R : Nat} {A B : mj_I}
theorem rq_cn_le {d x : Nat} (h : rq_cn A cc m d x) : ∀ k, rq_cn A cc m (d + k) x := by
  intro k
  induction k with
  | zero => exact h
  | succ k ih => exact Or.inl ih
theorem rq_cn_up {d e x : Nat} (h : rq_cn A cc m d x) (hde : d ≤ e) : rq_cn A cc m e x := by
  have := rq_cn_le h (e - d)
  rwa [show d + (e - d) = e by omega] at this
theorem rq_goE (hR : mj_RL cc m p R A B) {I : mj_I} (h47 : I 47 = B 47) {x t : Nat} (hx : x < 2058) (hok : rq_okv A cc m p x) : s_X6_mayGo (nI x - nI x / 6 * 6) (nI t) I = bI (rq_E A cc (x % 6) t) := by
  rw [(rq_d6 (G := x) (by omega)).2]
  unfold rq_E
  rw [← rq_mg hR.2.2.2.1 hok.2]
  unfold s_X6_mayGo
  rw [h47]
theorem rq_can (hR : mj_RL cc m p R A B) : ∀ d x, x < 2058 → rq_okv A cc m p x → (mj_can m B d (nI x) ↔ rq_cn A cc m d x) := by
  intro d
  induction d with
  | zero =>
    intro x hx _
    show nI x / 6 = 342 ↔ x / 6 = 342
    rw [(rq_d6 (G := x) (by omega)).1]
    exact rq_nIe (b := 342) (by omega) (by omega)
  | succ d ih =>
    intro x hx hok
    show (mj_can m B d (nI x) ∨ ∃ t : Nat, t < m ∧ ¬ s_X6_mayGo (nI x - nI x / 6 * 6) (nI t) B = 0 ∧ mj_can m B d (mj6_B (nI x) (nI t) B)) ↔ (rq_cn A cc m d x ∨ ∃ t, t < m ∧ rq_E A cc (x % 6) t = true ∧ rq_cn A cc m d (rq_bv A cc x t))
    have key : ∀ t, t < m → ((¬ s_X6_mayGo (nI x - nI x / 6 * 6) (nI t) B = 0 ∧ mj_can m B d (mj6_B (nI x) (nI t) B)) ↔ (rq_E A cc (x % 6) t = true ∧ rq_cn A cc m d (rq_bv A cc x t))) := by
      intro t ht
      obtain ⟨b1, b2, b3⟩ := rq_Bv hR hx hok ht
      rw [rq_goE hR rfl hx hok, b1, ih _ b2 b3]
      cases rq_E A cc (x % 6) t with
      | true => exact ⟨fun q => ⟨rfl, q.2⟩, fun q => ⟨by decide, q.2⟩⟩
      | false => exact ⟨fun q => absurd rfl q.1, fun q => absurd q.1 (by decide)⟩
    constructor
    · rintro (q | ⟨t, ht, q⟩)
      · exact Or.inl ((ih x hx hok).mp q)
      · exact Or.inr ⟨t, ht, (key t ht).mp q⟩
    · rintro (q | ⟨t, ht, q⟩)
      · exact Or.inl ((ih x hx hok).mpr q)
      · exact Or.inr ⟨t, ht, (key t ht).mpr q⟩
theorem rq_mn_le {T : Nat → Nat} {x : Nat} : ∀ k j g, rq_mn A cc T x k j g ≤ g := by
  intro k
  induction k with
  | zero => intro j g; exact Nat.le_refl _
  | succ k ih =>
    intro j g
    rw [rq_mn]
    refine Nat.le_trans (ih _ _) ?_
    split
    · exact Nat.min_le_left _ _
    · exact Nat.le_refl _
theorem rq_mn_t {T : Nat → Nat} {x t : Nat} (hE : rq_E A cc (x % 6) t = true) : ∀ k j g, j ≤ t → t < j + k → rq_mn A cc T x k j g ≤ T (rq_bv A cc x t) := by
  intro k
  induction k with
  | zero => intro j g h1 h2; omega
  | succ k ih =>
    intro j g h1 h2
    rw [rq_mn]
    by_cases hj : j = t
    · subst hj
      rw [if_pos hE]
      exact Nat.le_trans (rq_mn_le _ _ _) (Nat.min_le_right _ _)
    · exact ih _ _ (by omega) (by omega)
theorem rq_mn_e {T : Nat → Nat} {x : Nat} : ∀ k j g, rq_mn A cc T x k j g = g ∨ ∃ t, j ≤ t ∧ t < j + k ∧ rq_E A cc (x % 6) t = true ∧ rq_mn A cc T x k j g = T (rq_bv A cc x t) := by
  intro k
  induction k with
  | zero => intro j g; exact Or.inl rfl
  | succ k ih =>
    intro j g
    rw [rq_mn]
    rcases ih (j + 1) (if rq_E A cc (x % 6) j = true then min g (T (rq_bv A cc x j)) else g) with q | ⟨t, h1, h2, h3, h4⟩
    · rw [q]
      by_cases hE : rq_E A cc (x % 6) j = true
      · rw [if_pos hE]
        rcases Nat.le_total g (T (rq_bv A cc x j)) with a | a
        · exact Or.inl (Nat.min_eq_left a)
        · exact Or.inr ⟨j, by omega, by omega, hE, Nat.min_eq_right a⟩
      · rw [if_neg hE]; exact Or.inl rfl
    · exact Or.inr ⟨t, by omega, by omega, h3, h4⟩
theorem rq_bo (hR : mj_RL cc m p R A B) {I : mj_I} (hI : mj6_ce B I) {T : Nat → Nat} (hT : rq_tb A cc m p I T) {x : Nat} (hx : x < 2058) (hok : rq_okv A cc m p x) : ∀ k j g, k + j = m → g ≤ 1000 → s_X6_bo (nI x) m I k j (rq_cd g) = rq_cd (rq_mn A cc T x k j g) := by
  intro k
  induction k with
  | zero => intros; rfl
  | succ k ih =>
    intro j g hj hg
    obtain ⟨b1, b2, b3⟩ := rq_Bv hR hx hok (show j < m by omega)
    obtain ⟨t1, t2⟩ := hT _ b2 b3
    rw [s_X6_bo, rq_mn, rq_goE hR hI.2.2.2.1 hx hok, mj6_B_eq hI, b1, t1]
    cases hE : rq_E A cc (x % 6) j with
    | false =>
      rw [if_pos (show bI false = 0 from rfl), if_neg (show ¬ (false : Bool) = true by decide)]
      exact ih _ _ (by omega) hg
    | true =>
      rw [if_neg (show ¬ bI true = 0 by decide), if_pos rfl]
      by_cases h9 : T (rq_bv A cc x j) = 1000
      · rw [if_pos ((rq_cd9 t2).mpr h9), Nat.min_eq_left (by omega)]
        exact ih _ _ (by omega) hg
      · rw [if_neg (fun q => h9 ((rq_cd9 t2).mp q))]
        by_cases g9 : g = 1000
        · rw [if_pos ((rq_cd9 hg).mpr g9), Nat.min_eq_right (by omega)]
          exact ih _ _ (by omega) t2
        · rw [if_neg (fun q => g9 ((rq_cd9 hg).mp q))]
          by_cases hl : rq_cd (T (rq_bv A cc x j)) < rq_cd g
          · rw [if_pos hl]
            rw [show rq_cd (T (rq_bv A cc x j)) = nI (T (rq_bv A cc x j)) from if_neg h9, show rq_cd g = nI g from if_neg g9] at hl
            have := (nI_ltI (by omega) (by omega)).mp hl
            rw [Nat.min_eq_right (by omega)]
            exact ih _ _ (by omega) t2
          · rw [if_neg hl]
            rw [show rq_cd (T (rq_bv A cc x j)) = nI (T (rq_bv A cc x j)) from if_neg h9, show rq_cd g = nI g from if_neg g9] at hl
            have : ¬ T (rq_bv A cc x j) < g := fun q => hl ((nI_ltI (by omega) (by omega)).mpr q)
            rw [Nat.min_eq_left (by omega)]
            exact ih _ _ (by omega) hg
/-- a number that a round finds -/
def rq_new (A : mj_I) (cc m p e : Nat) (T : Nat → Nat) (y : Nat) : Prop := T y = 1000 ∧ rq_okv A cc m p y ∧ rq_cn A cc m (e + 1) y
def rq_af (A : mj_I) (cc m p e : Nat) (T T' : Nat → Nat) (y : Nat) : Prop := (T' y = T y ∧ ¬ rq_new A cc m p e T y) ∨ (T' y = e + 1 ∧ rq_new A cc m p e T y)
theorem rq_dec (hR : mj_RL cc m p R A B) {e : Nat} (he : e ≤ 22) {T T' : Nat → Nat} (hT : rq_ri A cc m p e T) (hT' : ∀ y, y < 2058 → T' y = T y ∨ (T' y = e + 1 ∧ T y = 1000)) {x : Nat} (hx : x < 2058) (hok : rq_okv A cc m p x) (h9 : T x = 1000) : rq_mn A cc T' x m 0 1000 = e ↔ rq_cn A cc m (e + 1) x := by
  have ne : ¬ rq_cn A cc m e x := by
    rcases hT x hx hok with q | q
    · exact q.2
    · omega
  constructor
  · intro h
    rcases rq_mn_e (A := A) (cc := cc) (T := T') (x := x) m 0 1000 with q | ⟨t, _, ht, hE, q⟩
    · omega
    · obtain ⟨_, b2, b3⟩ := rq_Bv hR hx hok (show t < m by omega)
      have e1 : T (rq_bv A cc x t) = e := by
        rcases hT' _ b2 with a | a <;> omega
      rcases hT _ b2 b3 with a | a
      · omega
      · rw [e1] at a
        exact Or.inr ⟨t, by omega, hE, a.2.1⟩
  · rintro (q | ⟨t, ht, hE, q⟩)
    · exact absurd q ne
    · obtain ⟨_, b2, b3⟩ := rq_Bv hR hx hok ht
      have u1 : T (rq_bv A cc x t) ≤ e := by
        rcases hT _ b2 b3 with a | a
        · exact absurd q a.2
        · exact a.1
      have u2 : T' (rq_bv A cc x t) ≤ e := by
        rcases hT' _ b2 with a | a <;> omega
      have l1 := rq_mn_t (A := A) (cc := cc) (T := T') hE m 0 1000 (by omega) (by omega)
      rcases rq_mn_e (A := A) (cc := cc) (T := T') (x := x) m 0 1000 with w | ⟨s, _, hs, hEs, w⟩
      · omega
      · obtain ⟨_, c2, c3⟩ := rq_Bv hR hx hok (show s < m by omega)
        by_cases lt : T' (rq_bv A cc x s) < e
        · exfalso
          have e1 : T (rq_bv A cc x s) = T' (rq_bv A cc x s) := by
            rcases hT' _ c2 with a | a <;> omega
          rcases hT _ c2 c3 with a | a
          · omega
          · have : rq_cn A cc m (T (rq_bv A cc x s) + 1) x := Or.inr ⟨s, by omega, hEs, a.2.1⟩
            exact ne (rq_cn_up this (by omega))
        · omega
theorem rq_fd (hR : mj_RL cc m p R A B) {e : Nat} (he : e ≤ 22) {T : Nat → Nat} (hT : rq_ri A cc m p e T) : ∀ (k j : Nat) (g : Int32) (I : mj_I) (T' : Nat → Nat), k + j = 2058 → (∀ x, x ≠ 42 → x ≠ 57 → I x = B x) → (∀ z, z ≠ 23 → I 42 z = B 42 z) → rq_tb A cc m p I T' → (∀ y, y < j → rq_af A cc m p e T T' y) → (∀ y, j ≤ y → T' y = T y) → (g = 0 → ∀ y, y < j → ¬ rq_new A cc m p e T y) →
    ∃ T2 : Nat → Nat, rq_tb A cc m p (s_X6_fd m (nI (e + 1)) k j g I).2 T2 ∧ (∀ y, y < 2058 → rq_af A cc m p e T T2 y) ∧ (∀ x, x ≠ 42 → x ≠ 57 → (s_X6_fd m (nI (e + 1)) k j g I).2 x = B x) ∧ (∀ z, z ≠ 23 → (s_X6_fd m (nI (e + 1)) k j g I).2 42 z = B 42 z) ∧ ((s_X6_fd m (nI (e + 1)) k j g I).1 = 0 → ∀ y, y < 2058 → ¬ rq_new A cc m p e T y) := by
  intro k
  induction k with
  | zero =>
    intro j g I T' hj h1 h2 h3 h4 h5 h6
    have : j = 2058 := by omega
    subst this
    exact ⟨T', h3, h4, h1, h2, h6⟩
  | succ k ih =>
    intro j g I T' hj h1 h2 h3 h4 h5 h6
    have hI : mj6_ce B I := ⟨h2 5 (by decide), h2 6 (by decide), h1 46 (by decide) (by decide), h1 47 (by decide) (by decide), h1 48 (by decide) (by decide), h1 49 (by decide) (by decide)⟩
    have hj2 : j < 2058 := by omega
    have skip : ¬ rq_new A cc m p e T j → ∃ T2 : Nat → Nat, rq_tb A cc m p (s_X6_fd m (nI (e + 1)) k (j + 1) g I).2 T2 ∧ (∀ y, y < 2058 → rq_af A cc m p e T T2 y) ∧ (∀ x, x ≠ 42 → x ≠ 57 → (s_X6_fd m (nI (e + 1)) k (j + 1) g I).2 x = B x) ∧ (∀ z, z ≠ 23 → (s_X6_fd m (nI (e + 1)) k (j + 1) g I).2 42 z = B 42 z) ∧ ((s_X6_fd m (nI (e + 1)) k (j + 1) g I).1 = 0 → ∀ y, y < 2058 → ¬ rq_new A cc m p e T y) := by
      intro hn
      refine ih (j + 1) g I T' (by omega) h1 h2 h3 (fun y hy => ?_) (fun y hy => h5 y (by omega)) (fun hg y hy => ?_)
      · by_cases hyj : y = j
        · subst hyj; exact Or.inl ⟨h5 y (by omega), hn⟩
        · exact h4 y (by omega)
      · by_cases hyj : y = j
        · subst hyj; exact hn
        · exact h6 hg y (by omega)
    rw [s_X6_fd, mj6_is_eq hI]
    by_cases h9 : I 57 (nI j) = -9
    · rw [if_pos h9]
      by_cases hs : s_X6_isState (nI j) B = 0
      · rw [if_pos hs]
        exact skip (fun q => (rq_isv hR hj2).mpr q.2.1 hs)
      · rw [if_neg hs]
        have hok := (rq_isv hR hj2).mp hs
        obtain ⟨t1, t2⟩ := h3 j hj2 hok
        have Tj : T j = 1000 := by
          rw [← h5 j (by omega)]
          exact (rq_cd9 t2).mp (t1.symm.trans h9)
        have dec := rq_dec hR he hT (T' := T') (fun y hy => by
          rcases Nat.lt_or_ge y j with q | q
          · rcases h4 y q with a | a
            · exact Or.inl a.1
            · exact Or.inr ⟨a.1, a.2.1⟩
          · exact Or.inl (h5 y q)) hj2 hok Tj
        have bo := rq_bo hR hI h3 hj2 hok m 0 1000 (by omega) (by omega)
        have ml := rq_mn_le (A := A) (cc := cc) (T := T') (x := j) m 0 1000
        have eb : s_X6_bestOf (nI j) m I = rq_cd (rq_mn A cc T' j m 0 1000) := bo
        have iff1 : s_X6_bestOf (nI j) m I = nI (e + 1) - 1 ↔ rq_cn A cc m (e + 1) j := by
          rw [eb, rq_sub1, ← dec]
          by_cases q : rq_mn A cc T' j m 0 1000 = 1000
          · rw [q]
            exact ⟨fun w => absurd w.symm (rq_m9 (by omega)), fun w => by omega⟩
          · rw [show rq_cd (rq_mn A cc T' j m 0 1000) = nI (rq_mn A cc T' j m 0 1000) from if_neg q]
            exact rq_nIe (by omega) (by omega)
        by_cases hc : rq_cn A cc m (e + 1) j
        · rw [if_pos (iff1.mpr hc)]
          have hn : rq_new A cc m p e T j := ⟨Tj, hok, hc⟩
          refine ih (j + 1) 1 _ (fun y => if y = j then e + 1 else T' y) (by omega) (fun x hx hx2 => by rw [mj_upI_ne hx2]; exact h1 x hx hx2) (fun z hz => by rw [mj_upI_ne (by decide)]; exact h2 z hz) (fun y hy hoky => ?_) (fun y hy => ?_) (fun y hy => ?_) (fun g => absurd g (by decide))
          · show mj_upI I 57 (nI j) (nI (e + 1)) 57 (nI y) = rq_cd (if y = j then e + 1 else T' y) ∧ (if y = j then e + 1 else T' y) ≤ 1000
            rw [mj_upI_eq]
            by_cases hyj : y = j
            · rw [if_pos (by rw [hyj]), if_pos hyj]
              exact ⟨(if_neg (by omega)).symm, by omega⟩
            · rw [if_neg (show ¬ nI y = nI j from fun hh => hyj ((nI_eq (by omega) (by omega)).mp hh)), if_neg hyj]
              exact h3 y hy hoky
          · by_cases hyj : y = j
            · subst hyj
              exact Or.inr ⟨if_pos rfl, hn⟩
            · have a := h4 y (by omega)
              have e1 : (if y = j then e + 1 else T' y) = T' y := if_neg hyj
              unfold rq_af at a ⊢
              show ((if y = j then e + 1 else T' y) = T y ∧ _) ∨ ((if y = j then e + 1 else T' y) = e + 1 ∧ _)
              rw [e1]; exact a
          · show (if y = j then e + 1 else T' y) = T y
            rw [if_neg (by omega)]
            exact h5 y (by omega)
        · rw [if_neg (fun q => hc (iff1.mp q))]
          exact skip (fun q => hc q.2.2)
    · rw [if_neg h9]
      refine skip (fun q => h9 ?_)
      obtain ⟨t1, t2⟩ := h3 j hj2 q.2.1
      rw [t1]
      exact (rq_cd9 t2).mpr (by rw [h5 j (by omega)]; exact q.1)
theorem rq_ri_up {e : Nat} (he : e ≤ 22) {T T2 : Nat → Nat} (hT : rq_ri A cc m p e T) (h : ∀ y, y < 2058 → rq_af A cc m p e T T2 y) : rq_ri A cc m p (e + 1) T2 := by
  intro y hy hok
  rcases h y hy with ⟨a1, a2⟩ | ⟨a1, a2⟩
  · rw [a1]
    rcases hT y hy hok with q | q
    · exact Or.inl ⟨q.1, fun w => a2 ⟨q.1, hok, w⟩⟩
    · exact Or.inr ⟨by omega, q.2⟩
  · refine Or.inr ⟨by omega, by rw [a1]; exact a2.2.2, fun d hd => ?_⟩
    rcases hT y hy hok with q | q
    · exact fun w => q.2 (rq_cn_up w (by omega))
    · have := a2.1
      have := q.1
      omega
end VT
