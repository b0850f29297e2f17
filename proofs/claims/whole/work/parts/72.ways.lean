/-! the class's day of ways -/
theorem rq_o1 : ∀ t : Fin 6, ∀ u : Fin 7, (nI t.1 <<< ((3 : Int32) &&& 31)) ||| nI u.1 = nI (8 * t.1 + u.1) := by decide +kernel
theorem rq_o2 : ∀ j : Fin 48, nI j.1 >>> ((3 : Int32) &&& 31) = nI (j.1 / 8) ∧ nI j.1 &&& 7 = nI (j.1 % 8) := by decide +kernel
theorem rq_o3 : ∀ y : Fin 42, nI y.1 / 6 = nI (y.1 / 6) ∧ nI y.1 - nI (y.1 / 6) * 6 = nI (y.1 % 6) := by decide +kernel
theorem rq_o4 : ∀ u : Fin 7, ∀ t : Fin 6, 6 * nI u.1 + nI t.1 = nI (6 * u.1 + t.1) := by decide +kernel
def rq_sg (A : mj_I) (cc q g t : Nat) : Nat := (sp_g A cc (nI q) (nI g) (A (cc + 1) (nI t))).toInt.toNat
def rq_E (A : mj_I) (cc s t : Nat) : Bool := sp_can (A (cc + 2)) (nI s) (nI t)
theorem rq_sgv {cc p q g t : Nat} {A B : mj_I} (hp3 : p ≤ 3) (hP : mj_rP cc p A B) (hq : q < p) (hg : mj6_fok (A (cc + 3) (nI q)) (nI g)) : sp_g A cc (nI q) (nI g) (A (cc + 1) (nI t)) = nI (rq_sg A cc q g t) ∧ rq_sg A cc q g t < 7 ∧ mj6_fok (A (cc + 3) (nI q)) (nI (rq_sg A cc q g t)) := by
  have e48 := (hP q hq).1
  have on := mj6_on (q := nI q) (g := nI g) (e := A (cc + 1) (nI t)) (I := B) (by rw [e48]; exact hg)
  rw [rq_onBy hp3 hP hq hg.1, e48] at on
  obtain ⟨x, hx, ex⟩ := mj6_nat on.1 (by omega)
  have e : rq_sg A cc q g t = x := by
    unfold rq_sg
    rw [ex, nI_toInt (by omega)]
    omega
  rw [e, ← ex]
  exact ⟨rfl, hx, on⟩
theorem rq_S_front {f : Nat → Nat} (k : Nat) : rq_S (k + 1) f = f 0 + rq_S k (fun i => f (i + 1)) := by
  have := rq_S_split (f := f) 1 k
  rw [Nat.add_comm 1 k] at this
  rw [this]
  show 0 + f 0 + _ = _
  rw [Nat.zero_add, rq_S_eq (g := fun i => f (i + 1)) k (fun i _ => by show f (1 + i) = f (i + 1); rw [Nat.add_comm])]
section VD
variable {cc m p : Nat} {A B A1 : mj_I}
theorem rq_go1 (hcc : cc = 2 ∨ cc = 10) (hm : m ≤ 6) (hp3 : p ≤ 3) (hP : mj_rP cc p A B) {q j V : Nat} (hq : q < p) (hA1 : ∀ x, x ≠ 25 → x ≠ 26 → x ≠ 27 → A1 x = A x) (hj : j < 48) (hV : A1 26 (nI j) = nI V) (hg : mj6_fok (A (cc + 3) (nI q)) (nI (j % 8))) : ∀ (k t : Nat) (A' : mj_I) (G : Nat → Nat), k + t = m → (∀ x, x ≠ 27 → A' x = A1 x) → (∀ x, x < 48 → A' 27 (nI x) = nI (G x)) →
    (∀ x, x ≠ 27 → s_X0_go1 cc m (nI q) (nI j) (nI (j / 8)) k t A' x = A1 x) ∧ ∀ x, x < 48 → s_X0_go1 cc m (nI q) (nI j) (nI (j / 8)) k t A' 27 (nI x) = nI (G x + if (t ≤ x / 8 ∧ x / 8 < m) ∧ rq_E A cc (j / 8) (x / 8) = true ∧ rq_sg A cc q (j % 8) (x / 8) = x % 8 then V else 0) := by
  intro k
  induction k with
  | zero =>
    intro t A' G ht h1 h2
    refine ⟨h1, fun x hx => ?_⟩
    rw [if_neg (by omega)]
    exact h2 x hx
  | succ k ih =>
    intro t A' G ht h1 h2
    have ec : A' (cc + 2) = A (cc + 2) := by rw [h1 _ (by omega), hA1 _ (by omega) (by omega) (by omega)]
    obtain ⟨v1, v2, v3⟩ := rq_sgv (t := t) hp3 hP hq hg
    have eb : s_X0_behindDay cc (nI q) (nI j &&& 7) (nI t) A' = nI (8 * t + rq_sg A cc q (j % 8) t) := by
      unfold s_X0_behindDay
      rw [(rq_o2 ⟨j, hj⟩).2]
      have e1 : sp_g A' cc (nI q) (nI (j % 8)) (A' (cc + 1) (nI t)) = sp_g A cc (nI q) (nI (j % 8)) (A (cc + 1) (nI t)) := by
        unfold sp_g
        rw [rq_tn3 (show q < 3 by omega), h1 (cc + 3) (by omega), h1 (cc + 5 + q) (by omega), h1 (cc + 1) (by omega), hA1 (cc + 3) (by omega) (by omega) (by omega), hA1 (cc + 5 + q) (by omega) (by omega) (by omega), hA1 (cc + 1) (by omega) (by omega) (by omega)]
      rw [e1, v1]
      exact rq_o1 ⟨t, by omega⟩ ⟨_, v2⟩
    rw [s_X0_go1, ec, eb]
    by_cases he : rq_E A cc (j / 8) t = true
    · rw [if_pos (show sp_can (A (cc + 2)) (nI (j / 8)) (nI t) = true from he), h1 26 (by decide), hV]
      have hcell := h2 (8 * t + rq_sg A cc q (j % 8) t) (by omega)
      rw [hcell, nI_add]
      obtain ⟨i1, i2⟩ := ih (t + 1) (mj_upI A' 27 (nI (8 * t + rq_sg A cc q (j % 8) t)) (nI (G (8 * t + rq_sg A cc q (j % 8) t) + V))) (fun x => if x = 8 * t + rq_sg A cc q (j % 8) t then G x + V else G x) (by omega) (fun x hx => by rw [mj_upI_ne hx, h1 x hx]) (fun x hx => by
        rw [mj_upI_eq]
        by_cases hxe : x = 8 * t + rq_sg A cc q (j % 8) t
        · rw [if_pos (by rw [hxe])]
          show _ = nI (if x = 8 * t + rq_sg A cc q (j % 8) t then G x + V else G x)
          rw [if_pos hxe, hxe]
        · rw [if_neg (fun hh => hxe ((rq_nIe (by omega) (by omega)).mp hh))]
          show _ = nI (if x = 8 * t + rq_sg A cc q (j % 8) t then G x + V else G x)
          rw [if_neg hxe]; exact h2 x hx)
      refine ⟨i1, fun x hx => ?_⟩
      rw [i2 x hx]
      congr 1
      by_cases hxe : x = 8 * t + rq_sg A cc q (j % 8) t
      · have d1 : x / 8 = t := by omega
        have d2 : x % 8 = rq_sg A cc q (j % 8) t := by omega
        rw [if_pos hxe, d1, if_neg (by omega), if_pos ⟨by omega, he, d2.symm⟩]
        omega
      · rw [if_neg hxe]
        by_cases hxt : x / 8 = t
        · rw [if_neg (show ¬ ((t + 1 ≤ x / 8 ∧ x / 8 < m) ∧ rq_E A cc (j / 8) (x / 8) = true ∧ rq_sg A cc q (j % 8) (x / 8) = x % 8) from fun g => by omega), if_neg (show ¬ ((t ≤ x / 8 ∧ x / 8 < m) ∧ rq_E A cc (j / 8) (x / 8) = true ∧ rq_sg A cc q (j % 8) (x / 8) = x % 8) from fun g => hxe (by have := g.2.2; rw [hxt] at this; omega))]
        · by_cases g : (t ≤ x / 8 ∧ x / 8 < m) ∧ rq_E A cc (j / 8) (x / 8) = true ∧ rq_sg A cc q (j % 8) (x / 8) = x % 8
          · rw [if_pos g, if_pos (show (t + 1 ≤ x / 8 ∧ x / 8 < m) ∧ rq_E A cc (j / 8) (x / 8) = true ∧ rq_sg A cc q (j % 8) (x / 8) = x % 8 from ⟨by omega, g.2⟩)]
          · rw [if_neg g, if_neg (show ¬ ((t + 1 ≤ x / 8 ∧ x / 8 < m) ∧ rq_E A cc (j / 8) (x / 8) = true ∧ rq_sg A cc q (j % 8) (x / 8) = x % 8) from fun q2 => g ⟨by omega, q2.2⟩)]
    · rw [if_neg (show ¬ sp_can (A (cc + 2)) (nI (j / 8)) (nI t) = true from he)]
      obtain ⟨i1, i2⟩ := ih (t + 1) A' G (by omega) h1 h2
      refine ⟨i1, fun x hx => ?_⟩
      rw [i2 x hx]
      congr 2
      by_cases hxt : x / 8 = t
      · rw [if_neg (show ¬ ((t + 1 ≤ x / 8 ∧ x / 8 < m) ∧ rq_E A cc (j / 8) (x / 8) = true ∧ rq_sg A cc q (j % 8) (x / 8) = x % 8) from fun g => by omega), if_neg (show ¬ ((t ≤ x / 8 ∧ x / 8 < m) ∧ rq_E A cc (j / 8) (x / 8) = true ∧ rq_sg A cc q (j % 8) (x / 8) = x % 8) from fun g => he (by rw [← hxt]; exact g.2.1))]
      · by_cases g : (t ≤ x / 8 ∧ x / 8 < m) ∧ rq_E A cc (j / 8) (x / 8) = true ∧ rq_sg A cc q (j % 8) (x / 8) = x % 8
        · rw [if_pos g, if_pos (show (t + 1 ≤ x / 8 ∧ x / 8 < m) ∧ rq_E A cc (j / 8) (x / 8) = true ∧ rq_sg A cc q (j % 8) (x / 8) = x % 8 from ⟨by omega, g.2⟩)]
        · rw [if_neg g, if_neg (show ¬ ((t + 1 ≤ x / 8 ∧ x / 8 < m) ∧ rq_E A cc (j / 8) (x / 8) = true ∧ rq_sg A cc q (j % 8) (x / 8) = x % 8) from fun q2 => g ⟨by omega, q2.2⟩)]
def rq_c5s (A : mj_I) (cc m q : Nat) (F : Nat → Nat) (j x : Nat) : Nat := if x / 8 < m ∧ rq_E A cc (j / 8) (x / 8) = true ∧ rq_sg A cc q (j % 8) (x / 8) = x % 8 then F j else 0
theorem rq_od (hcc : cc = 2 ∨ cc = 10) (hm : m ≤ 6) (hp3 : p ≤ 3) (hP : mj_rP cc p A B) {q : Nat} (hq : q < p) (hA1 : ∀ x, x ≠ 25 → x ≠ 26 → x ≠ 27 → A1 x = A x) {F : Nat → Nat} (hF : ∀ x, x < 48 → A1 26 (nI x) = nI (F x) ∧ F x < 2000000 ∧ (F x ≠ 0 → mj6_fok (A (cc + 3) (nI q)) (nI (x % 8)))) : ∀ (k j : Nat) (A' : mj_I) (G : Nat → Nat), k + j = 48 → (∀ x, x ≠ 27 → A' x = A1 x) → (∀ x, x < 48 → A' 27 (nI x) = nI (G x)) →
    ∃ M : mj_I, s_X0_od cc m (nI q) k j A' = mj_cpy M 27 26 0 0 48 ∧ (∀ x, x ≠ 27 → M x = A1 x) ∧ ∀ x, x < 48 → M 27 (nI x) = nI (G x + rq_S k (fun i => rq_c5s A cc m q F (j + i) x)) := by
  intro k
  induction k with
  | zero => intro j A' G _ h1 h2; exact ⟨A', rfl, h1, h2⟩
  | succ k ih =>
    intro j A' G hj h1 h2
    obtain ⟨f1, f2, f3⟩ := hF j (by omega)
    rw [s_X0_od, h1 26 (by decide), f1]
    have fr : ∀ x, rq_S (k + 1) (fun i => rq_c5s A cc m q F (j + i) x) = rq_c5s A cc m q F j x + rq_S k (fun i => rq_c5s A cc m q F (j + 1 + i) x) := by
      intro x
      rw [rq_S_front]
      congr 1
      exact rq_S_eq k (fun i _ => by show rq_c5s A cc m q F (j + (i + 1)) x = _; rw [show j + (i + 1) = j + 1 + i by omega])
    by_cases h0 : F j = 0
    · rw [h0, if_neg (by decide)]
      obtain ⟨M, e, m1, m2⟩ := ih (j + 1) A' G (by omega) h1 h2
      refine ⟨M, e, m1, fun x hx => ?_⟩
      rw [m2 x hx, fr]
      congr 1
      have : rq_c5s A cc m q F j x = 0 := by
        unfold rq_c5s
        rw [h0, ite_self]
      omega
    · rw [if_pos (show (0 : Int32) < nI (F j) from (nI_ltI (a := 0) (by omega) (by omega)).mpr (by omega))]
      unfold s_X0_goOn
      rw [(rq_o2 ⟨j, by omega⟩).1]
      obtain ⟨g1, g2⟩ := rq_go1 hcc hm hp3 hP hq hA1 (show j < 48 by omega) f1 (f3 h0) m 0 A' G (by omega) h1 h2
      obtain ⟨M, e, m1, m2⟩ := ih (j + 1) _ _ (by omega) g1 g2
      refine ⟨M, e, m1, fun x hx => ?_⟩
      rw [m2 x hx, fr, ← Nat.add_assoc]
      congr 3
      unfold rq_c5s
      by_cases g : x / 8 < m ∧ rq_E A cc (j / 8) (x / 8) = true ∧ rq_sg A cc q (j % 8) (x / 8) = x % 8
      · rw [if_pos g, if_pos ⟨⟨by omega, g.1⟩, g.2⟩]
      · rw [if_neg g, if_neg (fun q2 => g ⟨q2.1.2, q2.2⟩)]
/-- the cells of the class's table -/
def rq_F5 (m : Nat) (N : Nat → Nat → Nat) (j : Nat) : Nat := if j / 8 < m ∧ j % 8 < 7 then N (j % 8) (j / 8) else 0
theorem rq_sum5 (hm : m ≤ 6) {q : Nat} {N : Nat → Nat → Nat} (hs : ∀ g, g < 7 → ∀ s, s < m → N g s ≠ 0 → ∀ t, rq_sg A cc q g t < 7) {x : Nat} : rq_S 48 (fun j => rq_c5s A cc m q (rq_F5 m N) j x) = rq_F5 m (rq_nx m (rq_E A cc) (rq_sg A cc q) N) x := by
  have e1 := rq_S_rows (f := fun j => rq_c5s A cc m q (rq_F5 m N) j x) 8 6
  rw [show 6 * 8 = 48 from rfl] at e1
  rw [e1]
  have e2 : ∀ s g, g < 8 → rq_c5s A cc m q (rq_F5 m N) (s * 8 + g) x = if x / 8 < m ∧ rq_E A cc s (x / 8) = true ∧ rq_sg A cc q g (x / 8) = x % 8 then (if s < m ∧ g < 7 then N g s else 0) else 0 := by
    intro s g hg
    unfold rq_c5s rq_F5
    rw [show (s * 8 + g) / 8 = s by omega, show (s * 8 + g) % 8 = g by omega]
  rw [rq_S_eq (g := fun s => rq_S 8 (fun g => if x / 8 < m ∧ rq_E A cc s (x / 8) = true ∧ rq_sg A cc q g (x / 8) = x % 8 then (if s < m ∧ g < 7 then N g s else 0) else 0)) 6 (fun s _ => rq_S_eq 8 (fun g hg => e2 s g hg))]
  rw [rq_S_cut (m := m) hm (fun s hs2 => by
    rw [rq_S_eq (g := fun _ => 0) 8 (fun g _ => by
      show (if _ then (if s < m ∧ g < 7 then N g s else 0) else 0) = 0
      rw [if_neg (show ¬ (s < m ∧ g < 7) by omega), ite_self]), rq_S_0])]
  unfold rq_F5
  by_cases hx : x / 8 < m ∧ x % 8 < 7
  · rw [if_pos hx]
    unfold rq_nx
    rw [rq_S_swap (f := fun g s => if rq_E A cc s (x / 8) = true ∧ rq_sg A cc q g (x / 8) = x % 8 then N g s else 0) m 7]
    refine rq_S_eq m (fun s hs2 => ?_)
    rw [rq_S_cut (m := 7) (by omega) (fun g hg => by
      show (if _ then (if s < m ∧ g < 7 then N g s else 0) else 0) = 0
      rw [if_neg (show ¬ (s < m ∧ g < 7) by omega), ite_self])]
    refine rq_S_eq 7 (fun g hg => ?_)
    show (if _ then (if s < m ∧ g < 7 then N g s else 0) else 0) = _
    rw [if_pos (show s < m ∧ g < 7 from ⟨hs2, hg⟩)]
    by_cases h : rq_E A cc s (x / 8) = true ∧ rq_sg A cc q g (x / 8) = x % 8
    · rw [if_pos h, if_pos ⟨hx.1, h⟩]
    · rw [if_neg h, if_neg (fun k => h k.2)]
  · rw [if_neg hx, rq_S_eq (g := fun _ => 0) m (fun s hs2 => ?_), rq_S_0]
    rw [rq_S_eq (g := fun _ => 0) 8 (fun g hg => ?_), rq_S_0]
    by_cases h : x / 8 < m ∧ rq_E A cc s (x / 8) = true ∧ rq_sg A cc q g (x / 8) = x % 8
    · rw [if_pos h]
      by_cases h7 : s < m ∧ g < 7
      · rw [if_pos h7]
        by_cases z : N g s = 0
        · exact z
        · have := hs g h7.2 s h7.1 z (x / 8)
          omega
      · rw [if_neg h7]
    · rw [if_neg h]
end VD
