/-! the quickest: the class's queue -/
theorem rq_S_01 {f : Nat → Nat} (h : ∀ i, f i ≤ 1) : ∀ n, rq_S n f ≤ n := by
  intro n
  induction n with
  | zero => exact Nat.le_refl _
  | succ n ih => have := h n; rw [rq_S]; omega
theorem rq_S_set {f g : Nat → Nat} {w : Nat} (h0 : f w = 0) (h1 : g w = 1) : ∀ n, w < n → (∀ i, i < n → i ≠ w → g i = f i) → rq_S n g = rq_S n f + 1 := by
  intro n
  induction n with
  | zero => intro h; omega
  | succ n ih =>
    intro h hs
    rw [rq_S, rq_S]
    by_cases q : w = n
    · subst q
      rw [h0, h1, rq_S_eq (f := g) (g := f) w (fun i hi => hs i (by omega) (by omega))]
    · rw [ih (by omega) (fun i hi hne => hs i (by omega) hne), hs n (by omega) (fun z => q z.symm)]
      omega
def rq_Qu (A : mj_I) (cc m p F : Nat) (M : mj_I) (n : Nat) (q L : Nat → Nat) : Prop := M 20 4 = nI n ∧ (∀ t, t < n → (q t < 2058 ∧ rq_okv A cc m p (q t)) ∧ M 21 (nI t) = nI (rq_kn (q t)) ∧ M 23 (nI (rq_kn (q t))) = nI (L t) ∧ (1 ≤ L t ∧ L t ≤ 24)) ∧ (∀ y, y < 2058 → M 23 (nI (rq_kn y)) ≠ 0 → ∃ t, t < n ∧ q t = y) ∧ n = rq_S 2058 (fun y => if M 23 (nI (rq_kn y)) = 0 then 0 else 1) ∧ (∀ s t, s ≤ t → t < n → L s ≤ L t) ∧ ∀ t, t < n → ∀ d, rq_cn A cc m d (q t) → rq_cn A cc m (d + L t - 1) F
def rq_up (q : Nat → Nat) (n w : Nat) : Nat → Nat := fun t => if t = n then w else q t
theorem rq_kne {x y : Nat} (hx : x < 2058) (hy : y < 2058) (h : x ≠ y) : ¬ nI (rq_kn x) = nI (rq_kn y) := fun q => h (rq_kn_inj hx hy ((nI_eq (by have := rq_kn_lt x; omega) (by have := rq_kn_lt y; omega)).mp q))
section VB2
variable {cc m p F : Nat} {A : mj_I}
theorem rq_Qu_n {M : mj_I} {n : Nat} {q L : Nat → Nat} (h : rq_Qu A cc m p F M n q L) : n ≤ 2058 := by
  rw [h.2.2.2.1]
  exact rq_S_01 (fun i => by show (if M 23 (nI (rq_kn i)) = 0 then 0 else 1) ≤ 1; split <;> omega) 2058
theorem rq_come {M : mj_I} {n w l : Nat} {q L : Nat → Nat} {e : Int32} (h : rq_Qu A cc m p F M n q L) (hw : w < 2058) (hok : rq_okv A cc m p w) (hl : 1 ≤ l ∧ l ≤ 24) (hL : ∀ t, t < n → L t ≤ l) (hr : ∀ d, rq_cn A cc m d w → rq_cn A cc m (d + l - 1) F) :
    (M 23 (nI (rq_kn w)) ≠ 0 ∧ s_X3_come (nI (rq_kn w)) e (nI l) M = M) ∨ (M 23 (nI (rq_kn w)) = 0 ∧ rq_Qu A cc m p F (s_X3_come (nI (rq_kn w)) e (nI l) M) (n + 1) (rq_up q n w) (rq_up L n l) ∧ s_X3_come (nI (rq_kn w)) e (nI l) M 22 (nI (rq_kn w)) = e ∧ (∀ y, y < 2058 → y ≠ w → s_X3_come (nI (rq_kn w)) e (nI l) M 22 (nI (rq_kn y)) = M 22 (nI (rq_kn y)) ∧ s_X3_come (nI (rq_kn w)) e (nI l) M 23 (nI (rq_kn y)) = M 23 (nI (rq_kn y)))) := by
  have hn := rq_Qu_n h
  have kl := rq_kn_lt w
  obtain ⟨h1, h2, h3, h4, h5, h6⟩ := h
  unfold s_X3_come
  rw [if_neg (show ¬ nI (rq_kn w) < 0 from nI_nlt (b := 0) (by omega) (by omega)), if_pos (show nI (rq_kn w) < 3072 from nI_lt (b := 3072) (by omega) (by omega)), h1, if_pos (show nI n < 3072 from nI_lt (b := 3072) (by omega) (by omega))]
  by_cases h0 : M 23 (nI (rq_kn w)) = 0
  · rw [if_pos h0]
    have e23 : ∀ y, mj_upI (mj_upI (mj_upI (mj_upI M 23 (nI (rq_kn w)) (nI l)) 22 (nI (rq_kn w)) e) 21 (nI n) (nI (rq_kn w))) 20 4 (nI n + 1) 23 y = if y = nI (rq_kn w) then nI l else M 23 y := fun y => by
      rw [mj_upI_ne (by decide), mj_upI_ne (by decide), mj_upI_ne (by decide), mj_upI_eq]
    have e22 : ∀ y, mj_upI (mj_upI (mj_upI (mj_upI M 23 (nI (rq_kn w)) (nI l)) 22 (nI (rq_kn w)) e) 21 (nI n) (nI (rq_kn w))) 20 4 (nI n + 1) 22 y = if y = nI (rq_kn w) then e else M 22 y := fun y => by
      rw [mj_upI_ne (by decide), mj_upI_ne (by decide), mj_upI_eq, mj_upI_ne (by decide)]
    have e21 : ∀ y, mj_upI (mj_upI (mj_upI (mj_upI M 23 (nI (rq_kn w)) (nI l)) 22 (nI (rq_kn w)) e) 21 (nI n) (nI (rq_kn w))) 20 4 (nI n + 1) 21 y = if y = nI n then nI (rq_kn w) else M 21 y := fun y => by
      rw [mj_upI_ne (by decide), mj_upI_eq, mj_upI_ne (by decide), mj_upI_ne (by decide)]
    have e20 : mj_upI (mj_upI (mj_upI (mj_upI M 23 (nI (rq_kn w)) (nI l)) 22 (nI (rq_kn w)) e) 21 (nI n) (nI (rq_kn w))) 20 4 (nI n + 1) 20 4 = nI (n + 1) := by
      rw [mj_upI_eq, if_pos rfl]; exact nI_1 n
    generalize mj_upI (mj_upI (mj_upI (mj_upI M 23 (nI (rq_kn w)) (nI l)) 22 (nI (rq_kn w)) e) 21 (nI n) (nI (rq_kn w))) 20 4 (nI n + 1) = M2 at *
    have nl : ¬ nI l = 0 := fun g => by have := (rq_nIe (b := 0) (by omega) (by omega)).mp g; omega
    have old : ∀ t, t < n → q t ≠ w := by
      intro t ht g
      obtain ⟨_, _, g3, g4⟩ := h2 t ht
      rw [g, h0] at g3
      have := (rq_nIe (a := L t) (b := 0) (by omega) (by omega)).mp g3.symm
      omega
    refine Or.inr ⟨h0, ⟨e20, fun t ht => ?_, fun y hy hn0 => ?_, ?_, fun s t hst ht => ?_, fun t ht d hd => ?_⟩, ?_, fun y hy hyw => ⟨?_, ?_⟩⟩
    · by_cases htn : t = n
      · subst htn
        rw [show rq_up q t w t = w from if_pos rfl, show rq_up L t l t = l from if_pos rfl, e21, if_pos rfl, e23, if_pos rfl]
        exact ⟨⟨hw, hok⟩, rfl, rfl, hl⟩
      · have ht2 : t < n := by omega
        obtain ⟨g1, g2, g3, g4⟩ := h2 t ht2
        rw [show rq_up q n w t = q t from if_neg htn, show rq_up L n l t = L t from if_neg htn, e21, if_neg (fun g => htn ((nI_eq (by omega) (by omega)).mp g)), e23, if_neg (rq_kne g1.1 hw (old t ht2))]
        exact ⟨g1, g2, g3, g4⟩
    · by_cases hyw : y = w
      · exact ⟨n, by omega, by rw [hyw]; exact if_pos rfl⟩
      · rw [e23, if_neg (rq_kne hy hw hyw)] at hn0
        obtain ⟨t, ht, hq⟩ := h3 y hy hn0
        exact ⟨t, by omega, by rw [← hq]; exact if_neg (by omega)⟩
    · have := rq_S_set (f := fun y => if M 23 (nI (rq_kn y)) = 0 then 0 else 1) (g := fun y => if M2 23 (nI (rq_kn y)) = 0 then 0 else 1) (w := w) (if_pos h0) (by show (if M2 23 (nI (rq_kn w)) = 0 then 0 else 1) = 1; rw [e23, if_pos rfl, if_neg nl]) 2058 hw (fun y hy hyw => by
        show (if M2 23 (nI (rq_kn y)) = 0 then 0 else 1) = (if M 23 (nI (rq_kn y)) = 0 then 0 else 1)
        rw [e23, if_neg (rq_kne hy hw hyw)])
      rw [this, ← h4]
    · by_cases htn : t = n
      · rw [show rq_up L n l t = l from if_pos htn]
        by_cases hsn : s = n
        · rw [show rq_up L n l s = l from if_pos hsn]; omega
        · rw [show rq_up L n l s = L s from if_neg hsn]; exact hL s (by omega)
      · rw [show rq_up L n l t = L t from if_neg htn, show rq_up L n l s = L s from if_neg (by omega)]
        exact h5 s t hst (by omega)
    · by_cases htn : t = n
      · rw [show rq_up L n l t = l from if_pos htn]
        rw [show rq_up q n w t = w from if_pos htn] at hd
        exact hr d hd
      · rw [show rq_up L n l t = L t from if_neg htn]
        rw [show rq_up q n w t = q t from if_neg htn] at hd
        exact h6 t (by omega) d hd
    · rw [e22, if_pos rfl]
    · rw [e22, if_neg (rq_kne hy hw hyw)]
    · rw [e23, if_neg (rq_kne hy hw hyw)]
  · rw [if_neg h0]
    exact Or.inl ⟨h0, rfl⟩
end VB2
section VB3
variable {cc m p R F : Nat} {A B : mj_I}
/-- a number's ways from street j on -/
theorem rq_go9 (hcc : cc = 2 ∨ cc = 10) (hR : mj_RL cc m p R A B) {w l : Nat} (hw : w < 2058) (hok : rq_okv A cc m p w) (hl : 1 ≤ l ∧ l ≤ 23) (hrw : ∀ d, rq_cn A cc m d w → rq_cn A cc m (d + l - 1) F) : ∀ (k j n : Nat) (q L : Nat → Nat) (M : mj_I), k + j ≤ m → (∀ x, cc ≤ x → x ≤ cc + 7 → M x = A x) → rq_Qu A cc m p F M n q L → M 23 (nI (rq_kn w)) = nI l → (∀ t, t < n → L t ≤ l + 1) →
    ∃ (n2 : Nat) (q2 L2 : Nat → Nat), rq_Qu A cc m p F (s_X3_go1 cc m (nI (rq_kn w)) (nI (w % 6)) k j M) n2 q2 L2 ∧ n ≤ n2 ∧ (∀ t, t < n → q2 t = q t ∧ L2 t = L t) ∧ (∀ t, n ≤ t → t < n2 → L2 t = l + 1 ∧ ∃ u, j ≤ u ∧ u < j + k ∧ rq_E A cc (w % 6) u = true ∧ q2 t = rq_bv A cc w u) ∧ (∀ y, y < 2058 → M 23 (nI (rq_kn y)) ≠ 0 → s_X3_go1 cc m (nI (rq_kn w)) (nI (w % 6)) k j M 22 (nI (rq_kn y)) = M 22 (nI (rq_kn y)) ∧ s_X3_go1 cc m (nI (rq_kn w)) (nI (w % 6)) k j M 23 (nI (rq_kn y)) = M 23 (nI (rq_kn y))) ∧ (∀ x, x < 20 ∨ 23 < x → s_X3_go1 cc m (nI (rq_kn w)) (nI (w % 6)) k j M x = M x) := by
  have hm := hR.1.1
  intro k
  induction k with
  | zero => intro j n q L M _ _ h _ _; exact ⟨n, q, L, h, Nat.le_refl _, fun _ _ => ⟨rfl, rfl⟩, fun t h1 h2 => absurd h2 (by omega), fun _ _ _ => ⟨rfl, rfl⟩, fun _ _ => rfl⟩
  | succ k ih =>
    intro j n q L M hj hM h hl1 hL
    rw [s_X3_go1, hM (cc + 2) (by omega) (by omega)]
    by_cases hE : rq_E A cc (w % 6) j = true
    · rw [if_pos (show sp_can (A (cc + 2)) (nI (w % 6)) (nI j) = true from hE), rq_bday hcc hR hM hw hok (show j < m by omega), hl1, show nI l + 1 = nI (l + 1) from nI_1 l]
      obtain ⟨_, b2, b3⟩ := rq_Bv hR hw hok (show j < m by omega)
      have reach : ∀ d, rq_cn A cc m d (rq_bv A cc w j) → rq_cn A cc m (d + (l + 1) - 1) F := by
        intro d hd
        have := hrw (d + 1) (Or.inr ⟨j, by omega, hE, hd⟩)
        rwa [show d + 1 + l - 1 = d + (l + 1) - 1 by omega] at this
      have fr : ∀ x, x < 20 ∨ 23 < x → s_X3_come (nI (rq_kn (rq_bv A cc w j))) (nI (rq_kn w)) (nI (l + 1)) M x = M x := fun x hx => mj_come_fr _ _ _ _ _ (by omega) (by omega) (by omega) (by omega)
      rcases rq_come (e := nI (rq_kn w)) h b2 b3 (l := l + 1) (by omega) hL reach with ⟨c0, c1⟩ | ⟨c0, c1, c2, c3⟩
      · rw [c1]
        obtain ⟨n2, q2, L2, i1, i2, i3, i4, i5, i6⟩ := ih (j + 1) n q L M (by omega) hM h hl1 hL
        exact ⟨n2, q2, L2, i1, i2, i3, fun t h1 h2 => by obtain ⟨a, u, a1, a2, a3⟩ := i4 t h1 h2; exact ⟨a, u, by omega, by omega, a3⟩, i5, i6⟩
      · have wne : w ≠ rq_bv A cc w j := fun g => by
          rw [← g, hl1] at c0
          have := (rq_nIe (b := 0) (by omega) (by omega)).mp c0
          omega
        obtain ⟨n2, q2, L2, i1, i2, i3, i4, i5, i6⟩ := ih (j + 1) (n + 1) (rq_up q n (rq_bv A cc w j)) (rq_up L n (l + 1)) _ (by omega) (fun x h1 h2 => by rw [fr x (by omega)]; exact hM x h1 h2) c1 (by rw [(c3 w hw wne).2]; exact hl1) (fun t ht => by
          by_cases htn : t = n
          · rw [show rq_up L n (l + 1) t = l + 1 from if_pos htn]; exact Nat.le_refl _
          · rw [show rq_up L n (l + 1) t = L t from if_neg htn]; exact hL t (by omega))
        refine ⟨n2, q2, L2, i1, by omega, fun t ht => ?_, fun t h1 h2 => ?_, fun y hy hy0 => ?_, fun x hx => by rw [i6 x hx, fr x hx]⟩
        · obtain ⟨a1, a2⟩ := i3 t (by omega)
          rw [a1, a2]
          exact ⟨if_neg (by omega), if_neg (by omega)⟩
        · by_cases htn : t = n
          · obtain ⟨a1, a2⟩ := i3 t (by omega)
            rw [a1, a2]
            exact ⟨if_pos htn, j, by omega, by omega, hE, if_pos htn⟩
          · obtain ⟨a, u, a1, a2, a3⟩ := i4 t (by omega) h2
            exact ⟨a, u, by omega, by omega, a3⟩
        · have hyw : y ≠ rq_bv A cc w j := fun g => hy0 (by rw [g]; exact c0)
          obtain ⟨d1, d2⟩ := c3 y hy hyw
          obtain ⟨e1, e2⟩ := i5 y hy (by rw [d2]; exact hy0)
          rw [e1, e2, d1, d2]
          exact ⟨rfl, rfl⟩
    · rw [if_neg (show ¬ sp_can (A (cc + 2)) (nI (w % 6)) (nI j) = true from hE)]
      obtain ⟨n2, q2, L2, i1, i2, i3, i4, i5, i6⟩ := ih (j + 1) n q L M (by omega) hM h hl1 hL
      exact ⟨n2, q2, L2, i1, i2, i3, fun t h1 h2 => by obtain ⟨a, u, a1, a2, a3⟩ := i4 t h1 h2; exact ⟨a, u, by omega, by omega, a3⟩, i5, i6⟩
theorem rq_go_add (cc m : Nat) (s e : Int32) : ∀ (k1 k2 j : Nat) (M : mj_I), s_X3_go1 cc m s e (k1 + k2) j M = s_X3_go1 cc m s e k2 (j + k1) (s_X3_go1 cc m s e k1 j M) := by
  intro k1
  induction k1 with
  | zero => intro k2 j M; rw [Nat.zero_add]; rfl
  | succ k1 ih =>
    intro k2 j M
    rw [show k1 + 1 + k2 = (k1 + k2) + 1 by omega, s_X3_go1, s_X3_go1, show j + (k1 + 1) = j + 1 + k1 by omega]
    by_cases h : sp_can (M (cc + 2)) e (nI j) = true
    · rw [if_pos h, if_pos h, ih]
    · rw [if_neg h, if_neg h, ih]
end VB3
