/-! the reference's odds -/
def rq_F6 (m : Nat) (N : Nat → Nat → Nat) (y : Nat) : Nat := if y % 6 < m then N (y / 6) (y % 6) else 0
def rq_c6s (A : mj_I) (cc m q : Nat) (F : Nat → Nat) (y x : Nat) : Nat := if x % 6 < m ∧ rq_E A cc (y % 6) (x % 6) = true ∧ rq_sg A cc q (y / 6) (x % 6) = x / 6 then F y else 0
section VE
variable {cc m p : Nat} {A B : mj_I}
theorem rq_w3 (hm : m ≤ 6) (hp3 : p ≤ 3) (hC : mj_rC cc m A B) (hP : mj_rP cc p A B) {q y V : Nat} (hq : q < p) (hy : y < 42) (hys : y % 6 < m) (hV0 : V ≠ 0) (hV : V < 2000000) (hg : mj6_fok (A (cc + 3) (nI q)) (nI (y / 6))) : ∀ (k t : Nat) (B' : mj_I) (G : Nat → Nat), k + t = m → (∀ x, x ≠ 61 → x ≠ 62 → B' x = B x) → B' 61 (nI y) = nI V → (∀ x, x < 42 → B' 62 (nI x) = nI (G x)) →
    (∀ x, x ≠ 62 → s_X6_w3 (nI q) m y k t B' x = B' x) ∧ ∀ x, x < 42 → s_X6_w3 (nI q) m y k t B' 62 (nI x) = nI (G x + if (t ≤ x % 6 ∧ x % 6 < m) ∧ rq_E A cc (y % 6) (x % 6) = true ∧ rq_sg A cc q (y / 6) (x % 6) = x / 6 then V else 0) := by
  intro k
  induction k with
  | zero =>
    intro t B' G ht h1 hv h2
    refine ⟨fun _ _ => rfl, fun x hx => ?_⟩
    rw [if_neg (by omega)]
    exact h2 x hx
  | succ k ih =>
    intro t B' G ht h1 hv h2
    obtain ⟨v1, v2, v3⟩ := rq_sgv (t := t) hp3 hP hq hg
    have o3 := rq_o3 ⟨y, hy⟩
    have o31 : nI y / 6 = nI (y / 6) := o3.1
    have o32 : nI y - nI (y / 6) * 6 = nI (y % 6) := o3.2
    have em : s_X6_mayGo (nI (y % 6)) (nI t) B' = bI (rq_E A cc (y % 6) t) := by
      unfold rq_E
      rw [← rq_mg hC hys]
      unfold s_X6_mayGo
      rw [h1 47 (by decide) (by decide)]
    have eo : s_X6_onBy (nI q) (nI (y / 6)) (B' 46 (nI t)) B' = nI (rq_sg A cc q (y / 6) t) := by
      rw [rq_onBy_eq (h1 48 (by decide) (by decide)) (h1 49 (by decide) (by decide)), rq_onBy hp3 hP hq hg.1, h1 46 (by decide) (by decide), (hC.1 t (by omega)).1, v1]
    have e4 : 6 * nI (rq_sg A cc q (y / 6) t) + nI t = nI (6 * rq_sg A cc q (y / 6) t + t) := rq_o4 ⟨_, v2⟩ ⟨t, by omega⟩
    rw [s_X6_w3, hv, if_pos (show (0 : Int32) < nI V from (nI_ltI (a := 0) (by omega) (by omega)).mpr (by omega)), o31, o32, em, eo, e4]
    cases he : rq_E A cc (y % 6) t with
    | true =>
      rw [if_neg (show ¬ bI true = 0 by decide), h2 _ (by omega), nI_add]
      obtain ⟨i1, i2⟩ := ih (t + 1) (mj_upI B' 62 (nI (6 * rq_sg A cc q (y / 6) t + t)) (nI (G (6 * rq_sg A cc q (y / 6) t + t) + V))) (fun x => if x = 6 * rq_sg A cc q (y / 6) t + t then G x + V else G x) (by omega) (fun x hx hx2 => by rw [mj_upI_ne hx2, h1 x hx hx2]) (by rw [mj_upI_ne (by decide)]; exact hv) (fun x hx => by
        rw [mj_upI_eq]
        by_cases hxe : x = 6 * rq_sg A cc q (y / 6) t + t
        · rw [if_pos (by rw [hxe])]
          show _ = nI (if x = 6 * rq_sg A cc q (y / 6) t + t then G x + V else G x)
          rw [if_pos hxe, hxe]
        · rw [if_neg (fun hh => hxe ((rq_nIe (by omega) (by omega)).mp hh))]
          show _ = nI (if x = 6 * rq_sg A cc q (y / 6) t + t then G x + V else G x)
          rw [if_neg hxe]; exact h2 x hx)
      refine ⟨fun x hx => by rw [i1 x hx, mj_upI_ne hx], fun x hx => ?_⟩
      rw [i2 x hx]
      congr 1
      by_cases hxe : x = 6 * rq_sg A cc q (y / 6) t + t
      · have d1 : x % 6 = t := by omega
        have d2 : x / 6 = rq_sg A cc q (y / 6) t := by omega
        rw [if_pos hxe, d1, if_neg (by omega), if_pos ⟨by omega, he, d2.symm⟩]
        omega
      · rw [if_neg hxe]
        by_cases hxt : x % 6 = t
        · rw [if_neg (show ¬ ((t + 1 ≤ x % 6 ∧ x % 6 < m) ∧ rq_E A cc (y % 6) (x % 6) = true ∧ rq_sg A cc q (y / 6) (x % 6) = x / 6) from fun g => by omega), if_neg (show ¬ ((t ≤ x % 6 ∧ x % 6 < m) ∧ rq_E A cc (y % 6) (x % 6) = true ∧ rq_sg A cc q (y / 6) (x % 6) = x / 6) from fun g => hxe (by have := g.2.2; rw [hxt] at this; omega))]
        · by_cases g : (t ≤ x % 6 ∧ x % 6 < m) ∧ rq_E A cc (y % 6) (x % 6) = true ∧ rq_sg A cc q (y / 6) (x % 6) = x / 6
          · rw [if_pos g, if_pos (show (t + 1 ≤ x % 6 ∧ x % 6 < m) ∧ rq_E A cc (y % 6) (x % 6) = true ∧ rq_sg A cc q (y / 6) (x % 6) = x / 6 from ⟨by omega, g.2⟩)]
          · rw [if_neg g, if_neg (show ¬ ((t + 1 ≤ x % 6 ∧ x % 6 < m) ∧ rq_E A cc (y % 6) (x % 6) = true ∧ rq_sg A cc q (y / 6) (x % 6) = x / 6) from fun q2 => g ⟨by omega, q2.2⟩)]
    | false =>
      rw [if_pos (show bI false = 0 from rfl)]
      obtain ⟨i1, i2⟩ := ih (t + 1) B' G (by omega) h1 hv h2
      refine ⟨i1, fun x hx => ?_⟩
      rw [i2 x hx]
      congr 2
      by_cases hxt : x % 6 = t
      · rw [if_neg (show ¬ ((t + 1 ≤ x % 6 ∧ x % 6 < m) ∧ rq_E A cc (y % 6) (x % 6) = true ∧ rq_sg A cc q (y / 6) (x % 6) = x / 6) from fun g => by omega), if_neg (show ¬ ((t ≤ x % 6 ∧ x % 6 < m) ∧ rq_E A cc (y % 6) (x % 6) = true ∧ rq_sg A cc q (y / 6) (x % 6) = x / 6) from fun g => by have := g.2.1; rw [hxt, he] at this; exact absurd this (by decide))]
      · by_cases g : (t ≤ x % 6 ∧ x % 6 < m) ∧ rq_E A cc (y % 6) (x % 6) = true ∧ rq_sg A cc q (y / 6) (x % 6) = x / 6
        · rw [if_pos g, if_pos (show (t + 1 ≤ x % 6 ∧ x % 6 < m) ∧ rq_E A cc (y % 6) (x % 6) = true ∧ rq_sg A cc q (y / 6) (x % 6) = x / 6 from ⟨by omega, g.2⟩)]
        · rw [if_neg g, if_neg (show ¬ ((t + 1 ≤ x % 6 ∧ x % 6 < m) ∧ rq_E A cc (y % 6) (x % 6) = true ∧ rq_sg A cc q (y / 6) (x % 6) = x / 6) from fun q2 => g ⟨by omega, q2.2⟩)]
theorem rq_w2 (hm : m ≤ 6) (hp3 : p ≤ 3) (hC : mj_rC cc m A B) (hP : mj_rP cc p A B) {q : Nat} (hq : q < p) {F : Nat → Nat} (hF : ∀ y, y < 42 → F y < 2000000 ∧ (F y ≠ 0 → y % 6 < m ∧ mj6_fok (A (cc + 3) (nI q)) (nI (y / 6)))) : ∀ (k j : Nat) (B' : mj_I) (G : Nat → Nat), k + j = 42 → (∀ x, x ≠ 61 → x ≠ 62 → B' x = B x) → (∀ y, y < 42 → B' 61 (nI y) = nI (F y)) → (∀ x, x < 42 → B' 62 (nI x) = nI (G x)) →
    (∀ x, x ≠ 62 → s_X6_w2 (nI q) m k j B' x = B' x) ∧ ∀ x, x < 42 → s_X6_w2 (nI q) m k j B' 62 (nI x) = nI (G x + rq_S k (fun i => rq_c6s A cc m q F (j + i) x)) := by
  intro k
  induction k with
  | zero => intro j B' G _ h1 h2 h3; exact ⟨fun _ _ => rfl, h3⟩
  | succ k ih =>
    intro j B' G hj h1 h2 h3
    obtain ⟨f2, f3⟩ := hF j (by omega)
    have fr : ∀ x, rq_S (k + 1) (fun i => rq_c6s A cc m q F (j + i) x) = rq_c6s A cc m q F j x + rq_S k (fun i => rq_c6s A cc m q F (j + 1 + i) x) := by
      intro x
      rw [rq_S_front]
      congr 1
      exact rq_S_eq k (fun i _ => by show rq_c6s A cc m q F (j + (i + 1)) x = _; rw [show j + (i + 1) = j + 1 + i by omega])
    rw [s_X6_w2]
    by_cases h0 : F j = 0
    · have e : s_X6_w3 (nI q) m j m 0 B' = B' := by
        cases m with
        | zero => rfl
        | succ n => rw [s_X6_w3, h2 j (by omega), h0, if_neg (by decide)]
      rw [e]
      obtain ⟨i1, i2⟩ := ih (j + 1) B' G (by omega) h1 h2 h3
      refine ⟨i1, fun x hx => ?_⟩
      rw [i2 x hx, fr]
      congr 1
      have : rq_c6s A cc m q F j x = 0 := by
        unfold rq_c6s
        rw [h0, ite_self]
      omega
    · obtain ⟨k1, k2⟩ := f3 h0
      obtain ⟨g1, g2⟩ := rq_w3 hm hp3 hC hP hq (show j < 42 by omega) k1 h0 f2 k2 m 0 B' G (by omega) h1 (h2 j (by omega)) h3
      obtain ⟨i1, i2⟩ := ih (j + 1) _ _ (by omega) (fun x hx hx2 => by rw [g1 x hx2, h1 x hx hx2]) (fun y hy => by rw [g1 61 (by decide)]; exact h2 y hy) g2
      refine ⟨fun x hx => by rw [i1 x hx, g1 x hx], fun x hx => ?_⟩
      rw [i2 x hx, fr, ← Nat.add_assoc]
      congr 3
      unfold rq_c6s
      by_cases g : x % 6 < m ∧ rq_E A cc (j % 6) (x % 6) = true ∧ rq_sg A cc q (j / 6) (x % 6) = x / 6
      · rw [if_pos g, if_pos ⟨⟨by omega, g.1⟩, g.2⟩]
      · rw [if_neg g, if_neg (fun q2 => g ⟨q2.1.2, q2.2⟩)]
theorem rq_w1 (q : Int32) : ∀ (k j : Nat) (B' : mj_I), k + j = 42 → (∀ x, x < j → B' 62 (nI x) = 0) → (∀ x, x ≠ 62 → s_X6_w1 q k j B' x = B' x) ∧ ∀ x, x < 42 → s_X6_w1 q k j B' 62 (nI x) = 0 := by
  intro k
  induction k with
  | zero => intro j B' hj h; exact ⟨fun _ _ => rfl, fun x hx => h x (by omega)⟩
  | succ k ih =>
    intro j B' hj h
    rw [s_X6_w1]
    obtain ⟨i1, i2⟩ := ih (j + 1) (mj_upI B' 62 (nI j) 0) (by omega) (fun x hx => by
      rw [mj_upI_eq]
      by_cases hxj : x = j
      · rw [if_pos (by rw [hxj])]
      · rw [if_neg (fun hh => hxj ((rq_nIe (by omega) (by omega)).mp hh))]; exact h x (by omega))
    exact ⟨fun x hx => by rw [i1 x hx, mj_upI_ne hx], i2⟩
theorem rq_w4 (q : Int32) : ∀ (k j : Nat) (B' : mj_I), k + j = 42 → (∀ x, x < j → B' 61 (nI x) = B' 62 (nI x)) → (∀ x, x ≠ 61 → s_X6_w4 q k j B' x = B' x) ∧ ∀ x, x < 42 → s_X6_w4 q k j B' 61 (nI x) = B' 62 (nI x) := by
  intro k
  induction k with
  | zero => intro j B' hj h; exact ⟨fun _ _ => rfl, fun x hx => h x (by omega)⟩
  | succ k ih =>
    intro j B' hj h
    rw [s_X6_w4]
    obtain ⟨i1, i2⟩ := ih (j + 1) (mj_upI B' 61 (nI j) (B' 62 (nI j))) (by omega) (fun x hx => by
      rw [mj_upI_eq, mj_upI_ne (show (62 : Nat) ≠ 61 by decide)]
      by_cases hxj : x = j
      · rw [if_pos (by rw [hxj]), hxj]
      · rw [if_neg (fun hh => hxj ((rq_nIe (by omega) (by omega)).mp hh))]; exact h x (by omega))
    exact ⟨fun x hx => by rw [i1 x hx, mj_upI_ne hx], fun x hx => by rw [i2 x hx, mj_upI_ne (by decide)]⟩
theorem rq_sum6 (hm : m ≤ 6) {q : Nat} {N : Nat → Nat → Nat} {x : Nat} : rq_S 42 (fun y => rq_c6s A cc m q (rq_F6 m N) y x) = rq_F6 m (rq_nx m (rq_E A cc) (rq_sg A cc q) N) x := by
  have e1 := rq_S_rows (f := fun y => rq_c6s A cc m q (rq_F6 m N) y x) 6 7
  rw [show 7 * 6 = 42 from rfl] at e1
  rw [e1]
  have e2 : ∀ g s, s < 6 → rq_c6s A cc m q (rq_F6 m N) (g * 6 + s) x = if x % 6 < m ∧ rq_E A cc s (x % 6) = true ∧ rq_sg A cc q g (x % 6) = x / 6 then (if s < m then N g s else 0) else 0 := by
    intro g s hs
    unfold rq_c6s rq_F6
    rw [show (g * 6 + s) / 6 = g by omega, show (g * 6 + s) % 6 = s by omega]
  rw [rq_S_eq (g := fun g => rq_S 6 (fun s => if x % 6 < m ∧ rq_E A cc s (x % 6) = true ∧ rq_sg A cc q g (x % 6) = x / 6 then (if s < m then N g s else 0) else 0)) 7 (fun g _ => rq_S_eq 6 (fun s hs => e2 g s hs))]
  unfold rq_F6
  by_cases hx : x % 6 < m
  · rw [if_pos hx]
    unfold rq_nx
    refine rq_S_eq 7 (fun g hg => ?_)
    rw [rq_S_cut (m := m) hm (fun s hs => by
      show (if _ then (if s < m then N g s else 0) else 0) = 0
      rw [if_neg (show ¬ s < m by omega), ite_self])]
    refine rq_S_eq m (fun s hs => ?_)
    show (if _ then (if s < m then N g s else 0) else 0) = _
    rw [if_pos hs]
    by_cases h : rq_E A cc s (x % 6) = true ∧ rq_sg A cc q g (x % 6) = x / 6
    · rw [if_pos h, if_pos ⟨hx, h⟩]
    · rw [if_neg h, if_neg (fun k => h k.2)]
  · rw [if_neg hx, rq_S_eq (g := fun _ => 0) 7 (fun g _ => ?_), rq_S_0]
    rw [rq_S_eq (g := fun _ => 0) 6 (fun s _ => if_neg (fun k => hx k.1)), rq_S_0]
def rq_W6 (m : Nat) (B B' : mj_I) (N : Nat → Nat → Nat) : Prop := (∀ x, x ≠ 61 → x ≠ 62 → B' x = B x) ∧ ∀ y, y < 42 → B' 61 (nI y) = nI (rq_F6 m N y)
theorem rq_day6 (hm : m ≤ 6) (hp3 : p ≤ 3) (hC : mj_rC cc m A B) (hP : mj_rP cc p A B) {q x : Nat} (hq : q < p) {N : Nat → Nat → Nat} (hN : rq_gd m (A (cc + 3) (nI q)) N x) (hx : x < 2000000) {B' : mj_I} (h : rq_W6 m B B' N) : rq_W6 m B (s_X6_goRows m (nI q) B') (rq_nx m (rq_E A cc) (rq_sg A cc q) N) := by
  unfold s_X6_goRows
  obtain ⟨h1, h2⟩ := h
  obtain ⟨a1, a2⟩ := rq_w1 (nI q) 42 0 B' rfl (fun x hx => absurd hx (by omega))
  have hF : ∀ y, y < 42 → rq_F6 m N y < 2000000 ∧ (rq_F6 m N y ≠ 0 → y % 6 < m ∧ mj6_fok (A (cc + 3) (nI q)) (nI (y / 6))) := by
    intro y hy
    unfold rq_F6
    by_cases g : y % 6 < m
    · rw [if_pos g]
      refine ⟨?_, fun hn => ⟨g, hN.1 _ (by omega) _ g hn⟩⟩
      have := rq_cell (m := m) (N := N) (show y / 6 < 7 by omega) g
      have := hN.2.1
      omega
    · rw [if_neg g]; exact ⟨by omega, fun hn => absurd rfl hn⟩
  obtain ⟨b1, b2⟩ := rq_w2 (A := A) hm hp3 hC hP hq hF 42 0 (s_X6_w1 (nI q) 42 0 B') (fun _ => 0) rfl (fun x hx hx2 => by rw [a1 x hx2, h1 x hx hx2]) (fun y hy => by rw [a1 61 (by decide)]; exact h2 y hy) a2
  obtain ⟨c1, c2⟩ := rq_w4 (nI q) 42 0 (s_X6_w2 (nI q) m 42 0 (s_X6_w1 (nI q) 42 0 B')) rfl (fun x hx => absurd hx (by omega))
  refine ⟨fun x hx hx2 => by rw [c1 x hx, b1 x hx2, a1 x hx2, h1 x hx hx2], fun y hy => ?_⟩
  rw [c2 y hy, b2 y hy, Nat.zero_add]
  congr 1
  rw [rq_S_eq (g := fun i => rq_c6s A cc m q (rq_F6 m N) i y) 42 (fun i _ => by rw [Nat.zero_add])]
  exact rq_sum6 hm
theorem rq_oF6 (hm : m ≤ 6) (hp3 : p ≤ 3) (hC : mj_rC cc m A B) (hP : mj_rP cc p A B) {q : Nat} (hq : q < p) (a w f : Int32) (v : Nat) : ∀ (k j x : Nat) (N : Nat → Nat → Nat) (B' : mj_I), rq_gd m (A (cc + 3) (nI q)) N x → 6 ^ k * x < 2000000 → rq_W6 m B B' N → rq_W6 m B (s_X6_oF (nI q) a v w f m k j B') (rq_it m (rq_E A cc) (rq_sg A cc q) k N) := by
  intro k
  induction k with
  | zero => intro j x N B' _ _ h; exact h
  | succ k ih =>
    intro j x N B' hN hx h
    rw [s_X6_oF]
    have p1 : ∀ k, 1 ≤ 6 ^ k := by
      intro k
      induction k with
      | zero => decide
      | succ k ih => rw [Nat.pow_succ]; omega
    have p1 := p1 k
    have hx2 : x < 2000000 := by
      rw [Nat.pow_succ] at hx
      have : 1 * x ≤ 6 ^ k * 6 * x := Nat.mul_le_mul_right x (by omega)
      omega
    exact ih (j + 1) (6 * x) _ _ (rq_gd_nx hm hp3 hP hq hN) (by rw [← Nat.mul_assoc, ← Nat.pow_succ]; exact hx) (rq_day6 hm hp3 hC hP hq hN hx2 h)
theorem rq_oE6 (q a w : Int32) (v z : Nat) (hz : z < 42) : ∀ (k j : Nat) (B' : mj_I), k + j = 42 → (∀ x, x < j → B' 61 (nI x) = nI (if x = z then 1 else 0)) → (∀ x, x ≠ 61 → s_X6_oE q a v w (nI z) k j B' x = B' x) ∧ ∀ x, x < 42 → s_X6_oE q a v w (nI z) k j B' 61 (nI x) = nI (if x = z then 1 else 0) := by
  intro k
  induction k with
  | zero => intro j B' hj h; exact ⟨fun _ _ => rfl, fun x hx => h x (by omega)⟩
  | succ k ih =>
    intro j B' hj h
    have step : s_X6_oE q a v w (nI z) (k + 1) j B' = s_X6_oE q a v w (nI z) k (j + 1) (mj_upI B' 61 (nI j) (nI (if j = z then 1 else 0))) := by
      rw [s_X6_oE]
      by_cases hjz : j = z
      · rw [if_pos (by rw [hjz]), if_pos hjz]; rfl
      · rw [if_neg (fun hh => hjz ((rq_nIe (by omega) (by omega)).mp hh)), if_neg hjz]; rfl
    rw [step]
    obtain ⟨i1, i2⟩ := ih (j + 1) (mj_upI B' 61 (nI j) (nI (if j = z then 1 else 0))) (by omega) (fun x hx => by
      rw [mj_upI_eq]
      by_cases hxj : x = j
      · rw [if_pos (by rw [hxj]), hxj]
      · rw [if_neg (fun hh => hxj ((rq_nIe (by omega) (by omega)).mp hh))]; exact h x (by omega))
    exact ⟨fun x hx => by rw [i1 x hx, mj_upI_ne hx], i2⟩
theorem rq_al6 {B' : mj_I} {F : Nat → Nat} (hF : ∀ y, y < 42 → B' 61 (nI y) = nI (F y)) : ∀ (k j a : Nat), k + j = 42 → mj6_all B' k j (nI a) = nI (a + rq_S k (fun i => F (j + i))) := by
  intro k
  induction k with
  | zero => intros; rfl
  | succ k ih =>
    intro j a hj
    rw [mj6_all, hF j (by omega), nI_add, ih (j + 1) _ (by omega), rq_S_front, ← Nat.add_assoc]
    congr 2
    exact rq_S_eq k (fun i _ => by show F (j + 1 + i) = F (j + (i + 1)); rw [show j + (i + 1) = j + 1 + i by omega])
theorem rq_ri6 {B' : mj_I} {F : Nat → Nat} (hF : ∀ y, y < 42 → B' 61 (nI y) = nI (F y)) : ∀ (k j a : Nat), k + j = 42 → mj6_rip B' k j (nI a) = nI (a + rq_S k (fun i => if (j + i) / 6 = 6 then F (j + i) else 0)) := by
  intro k
  induction k with
  | zero => intros; rfl
  | succ k ih =>
    intro j a hj
    have e : (if nI j / 6 = 6 then B' 61 (nI j) else 0) = nI (if j / 6 = 6 then F j else 0) := by
      rw [(rq_o3 ⟨j, by omega⟩).1, hF j (by omega)]
      by_cases h : j / 6 = 6
      · rw [if_pos (show nI (j / 6) = 6 by rw [h]; rfl), if_pos h]
      · rw [if_neg (show ¬ nI (j / 6) = 6 from fun hh => h ((rq_nIe (b := 6) (by omega) (by omega)).mp hh)), if_neg h]; rfl
    rw [mj6_rip, e, nI_add, ih (j + 1) _ (by omega), rq_S_front, ← Nat.add_assoc]
    congr 2
    exact rq_S_eq k (fun i _ => by show (if (j + 1 + i) / 6 = 6 then F (j + 1 + i) else 0) = (if (j + (i + 1)) / 6 = 6 then F (j + (i + 1)) else 0); rw [show j + (i + 1) = j + 1 + i by omega])
theorem rq_tot6 (hm : m ≤ 6) {N : Nat → Nat → Nat} : rq_S 42 (fun i => rq_F6 m N (0 + i)) = rq_tt m N ∧ rq_S 42 (fun i => if (0 + i) / 6 = 6 then rq_F6 m N (0 + i) else 0) = rq_S m (fun s => N 6 s) := by
  have key : ∀ f : Nat → Nat → Nat, (∀ g s, m ≤ s → f g s = 0) → rq_S 42 (fun i => f ((0 + i) / 6) ((0 + i) % 6)) = rq_S 7 (fun g => rq_S m (fun s => f g s)) := by
    intro f hf
    have e1 := rq_S_rows (f := fun i => f ((0 + i) / 6) ((0 + i) % 6)) 6 7
    rw [show 7 * 6 = 42 from rfl] at e1
    rw [e1]
    refine rq_S_eq 7 (fun g _ => ?_)
    rw [rq_S_eq (g := fun s => f g s) 6 (fun s hs => by
      show f ((0 + (g * 6 + s)) / 6) ((0 + (g * 6 + s)) % 6) = f g s
      rw [show (0 + (g * 6 + s)) / 6 = g by omega, show (0 + (g * 6 + s)) % 6 = s by omega])]
    exact rq_S_cut (m := m) hm (fun s hs => hf g s hs)
  constructor
  · have k1 := key (fun g s => if s < m then N g s else 0) (fun g s h => if_neg (by omega))
    refine Eq.trans k1 ?_
    unfold rq_tt
    exact rq_S_eq 7 (fun g hg => rq_S_eq m (fun s hs => if_pos hs))
  · have k1 := key (fun g s => if g = 6 then (if s < m then N g s else 0) else 0) (fun g s h => by
      show (if g = 6 then (if s < m then N g s else 0) else 0) = 0
      rw [if_neg (show ¬ s < m by omega), ite_self])
    refine Eq.trans k1 ?_
    have z : ∀ g, g ≠ 6 → rq_S m (fun s => if g = 6 then (if s < m then N g s else 0) else 0) = 0 := fun g hg => by
      rw [rq_S_eq (g := fun _ => 0) m (fun s _ => if_neg hg), rq_S_0]
    show 0 + _ + _ + _ + _ + _ + _ + _ = _
    dsimp only
    rw [z 0 (by decide), z 1 (by decide), z 2 (by decide), z 3 (by decide), z 4 (by decide), z 5 (by decide)]
    rw [rq_S_eq (g := fun s => N 6 s) m (fun s hs => by show (if 6 = 6 then (if s < m then N 6 s else 0) else 0) = N 6 s; rw [if_pos rfl, if_pos hs])]
    omega
end VE
