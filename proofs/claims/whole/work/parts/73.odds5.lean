/-! the class's odds -/
def rq_it (m : Nat) (e : Nat → Nat → Bool) (st : Nat → Nat → Nat) : Nat → (Nat → Nat → Nat) → Nat → Nat → Nat
  | 0, N => N
  | k + 1, N => rq_it m e st k (rq_nx m e st N)
def rq_gd (m : Nat) (K : Int32) (N : Nat → Nat → Nat) (x : Nat) : Prop := (∀ g, g < 7 → ∀ s, s < m → N g s ≠ 0 → mj6_fok K (nI g)) ∧ rq_tt m N ≤ x ∧ 1 ≤ rq_tt m N
def rq_N0 (u f : Nat) (g s : Nat) : Nat := if g = u ∧ f = s then 1 else 0
theorem rq_S_pos {f : Nat → Nat} : ∀ n, 1 ≤ rq_S n f → ∃ i, i < n ∧ f i ≠ 0 := by
  intro n
  induction n with
  | zero => intro h; exact absurd h (by show ¬ 1 ≤ 0; omega)
  | succ n ih =>
    intro h
    rw [rq_S] at h
    by_cases g : f n = 0
    · obtain ⟨i, h1, h2⟩ := ih (by omega)
      exact ⟨i, by omega, h2⟩
    · exact ⟨n, by omega, g⟩
section VO
variable {cc m p : Nat} {A B : mj_I}
theorem rq_gd_nx (hm : m ≤ 6) (hp3 : p ≤ 3) (hP : mj_rP cc p A B) {q x : Nat} (hq : q < p) {N : Nat → Nat → Nat} (h : rq_gd m (A (cc + 3) (nI q)) N x) : rq_gd m (A (cc + 3) (nI q)) (rq_nx m (rq_E A cc) (rq_sg A cc q) N) (6 * x) := by
  obtain ⟨h1, h2, h3⟩ := h
  refine ⟨fun u hu t ht hn => ?_, ?_, ?_⟩
  · obtain ⟨g, hg, s, hs, he, hu2, hN⟩ := rq_nx_pos hn
    have := (rq_sgv (t := t) hp3 hP hq (h1 g hg s hs hN)).2.2
    rw [hu2] at this
    exact this
  · have a := rq_tt_nx (m := m) (e := rq_E A cc) (st := rq_sg A cc q) (N := N)
    have a2 : m * rq_tt m N ≤ 6 * x := Nat.mul_le_mul hm h2
    omega
  · obtain ⟨g, hg, hg2⟩ := rq_S_pos 7 h3
    obtain ⟨s, hs, hN⟩ := rq_S_pos m (Nat.one_le_iff_ne_zero.mpr hg2)
    have he : rq_E A cc s s = true := if_pos rfl
    have a := rq_nx_ge (m := m) (e := rq_E A cc) (st := rq_sg A cc q) (N := N) hg hs he
    have a3 := (rq_sgv (t := s) hp3 hP hq (h1 g hg s hs hN)).2.1
    have a2 := rq_cell (m := m) (N := rq_nx m (rq_E A cc) (rq_sg A cc q) N) a3 hs
    omega
theorem rq_gd_it (hm : m ≤ 6) (hp3 : p ≤ 3) (hP : mj_rP cc p A B) {q : Nat} (hq : q < p) : ∀ (k x : Nat) (N : Nat → Nat → Nat), rq_gd m (A (cc + 3) (nI q)) N x → rq_gd m (A (cc + 3) (nI q)) (rq_it m (rq_E A cc) (rq_sg A cc q) k N) (6 ^ k * x) := by
  intro k
  induction k with
  | zero => intro x N h; rw [Nat.pow_zero, Nat.one_mul]; exact h
  | succ k ih =>
    intro x N h
    have := ih (6 * x) _ (rq_gd_nx hm hp3 hP hq h)
    rw [← Nat.mul_assoc, ← Nat.pow_succ] at this
    exact this
theorem rq_gd_0 (hp3 : p ≤ 3) (hP : mj_rP cc p A B) {q f : Nat} (hq : q < p) (hf : f < m) : rq_gd m (A (cc + 3) (nI q)) (rq_N0 (rq_sg A cc q 0 f) f) 1 := by
  have f0 : mj6_fok (A (cc + 3) (nI q)) (nI 0) := ⟨mj_in_nI (by omega) (by omega), Or.inr (Or.inl rfl)⟩
  obtain ⟨v1, v2, v3⟩ := rq_sgv (t := f) hp3 hP hq f0
  refine ⟨fun g hg s hs hn => ?_, ?_, ?_⟩
  · unfold rq_N0 at hn
    by_cases h : g = rq_sg A cc q 0 f ∧ f = s
    · rw [h.1]; exact v3
    · rw [if_neg h] at hn; exact absurd rfl hn
  · unfold rq_tt
    have a : ∀ g, rq_S m (fun s => rq_N0 (rq_sg A cc q 0 f) f g s) ≤ if True ∧ rq_sg A cc q 0 f = g then 1 else 0 := by
      intro g
      unfold rq_N0
      by_cases h : g = rq_sg A cc q 0 f
      · rw [if_pos (show True ∧ rq_sg A cc q 0 f = g from ⟨trivial, h.symm⟩)]
        refine Nat.le_trans (rq_S_at (P := g = rq_sg A cc q 0 f) (u := f) (v := 1) m) ?_
        split <;> omega
      · rw [rq_S_eq (g := fun _ => 0) m (fun s _ => if_neg (fun q => h q.1)), rq_S_0]
        exact Nat.zero_le _
    refine Nat.le_trans (rq_S_le 7 (fun g _ => a g)) ?_
    refine Nat.le_trans (rq_S_at (P := True) (u := rq_sg A cc q 0 f) (v := 1) 7) ?_
    split <;> omega
  · have := rq_cell (m := m) (N := rq_N0 (rq_sg A cc q 0 f) f) v2 hf
    have e : rq_N0 (rq_sg A cc q 0 f) f (rq_sg A cc q 0 f) f = 1 := if_pos ⟨rfl, rfl⟩
    omega
/-- the class's table stands for the counts -/
def rq_W5 (cc m : Nat) (A A' : mj_I) (N : Nat → Nat → Nat) : Prop := (∀ x, x ≠ 25 → x ≠ 26 → x ≠ 27 → A' x = A x) ∧ ∀ x, x < 48 → A' 26 (nI x) = nI (rq_F5 m N x)
theorem rq_day5 (hcc : cc = 2 ∨ cc = 10) (hm : m ≤ 6) (hp3 : p ≤ 3) (hP : mj_rP cc p A B) {q x : Nat} (hq : q < p) {N : Nat → Nat → Nat} (hN : rq_gd m (A (cc + 3) (nI q)) N x) (hx : x < 2000000) {A' : mj_I} (h : rq_W5 cc m A A' N) : rq_W5 cc m A (s_X0_goOneDay cc m (nI q) A') (rq_nx m (rq_E A cc) (rq_sg A cc q) N) := by
  unfold s_X0_goOneDay
  obtain ⟨h1, h2⟩ := h
  have hF : ∀ x, x < 48 → mj_fil A' 27 48 0 26 (nI x) = nI (rq_F5 m N x) ∧ rq_F5 m N x < 2000000 ∧ (rq_F5 m N x ≠ 0 → mj6_fok (A (cc + 3) (nI q)) (nI (x % 8))) := by
    intro y hy
    rw [mj_fil_ne (by decide)]
    refine ⟨h2 y hy, ?_, fun hn => ?_⟩
    · unfold rq_F5
      by_cases g : y / 8 < m ∧ y % 8 < 7
      · rw [if_pos g]
        have := rq_cell (m := m) (N := N) g.2 g.1
        have := hN.2.1
        omega
      · rw [if_neg g]; omega
    · unfold rq_F5 at hn
      by_cases g : y / 8 < m ∧ y % 8 < 7
      · rw [if_pos g] at hn
        exact hN.1 _ g.2 _ g.1 hn
      · rw [if_neg g] at hn; exact absurd rfl hn
  obtain ⟨M, e, m1, m2⟩ := rq_od (A := A) (A1 := mj_fil A' 27 48 0) hcc hm hp3 hP hq (fun x a1 a2 a3 => by rw [mj_fil_ne a3, h1 x a1 a2 a3]) hF 48 0 (mj_fil A' 27 48 0) (fun _ => 0) rfl (fun _ _ => rfl) (fun x hx => rq_fil_v hx (by omega))
  rw [e]
  refine ⟨fun x a1 a2 a3 => ?_, fun x hx => ?_⟩
  · rw [mj_cpy_ne (by omega), m1 x a3, mj_fil_ne a3, h1 x a1 a2 a3]
  · have cv := rq_cpy_v (I := M) (a := 27) (d := 26) (i := 0) (e := 0) (m := 48) (y := x) (by omega) (by omega) (by omega)
    rw [if_pos (by omega), Nat.zero_add, Nat.sub_zero] at cv
    refine Eq.trans cv ?_
    rw [m2 x hx, Nat.zero_add]
    congr 1
    rw [rq_S_eq (g := fun j => rq_c5s A cc m q (rq_F5 m N) j x) 48 (fun i _ => by rw [Nat.zero_add])]
    exact rq_sum5 hm (fun g hg s hs hn t => (rq_sgv (t := t) hp3 hP hq (hN.1 g hg s hs hn)).2.1)
theorem rq_ct5 : ∀ (k j : Nat) (A' : mj_I) (F : Nat → Nat) (a e : Nat), k + j = 48 → (∀ x, x < 48 → A' 26 (nI x) = nI (F x)) → A' 25 0 = nI a → A' 25 1 = nI e → (∀ x, x ≠ 25 → s_X0_ct k j A' x = A' x) ∧ s_X0_ct k j A' 25 0 = nI (a + rq_S k (fun i => F (j + i))) ∧ s_X0_ct k j A' 25 1 = nI (e + rq_S k (fun i => if (j + i) % 8 = 6 then F (j + i) else 0)) := by
  intro k
  induction k with
  | zero => intro j A' F a e _ _ h1 h2; exact ⟨fun _ _ => rfl, h1, h2⟩
  | succ k ih =>
    intro j A' F a e hj hF h1 h2
    have fr : ∀ f : Nat → Nat, rq_S (k + 1) (fun i => f (j + i)) = f j + rq_S k (fun i => f (j + 1 + i)) := by
      intro f
      rw [rq_S_front]
      congr 1
      exact rq_S_eq k (fun i _ => by show f (j + (i + 1)) = _; rw [show j + (i + 1) = j + 1 + i by omega])
    rw [s_X0_ct, (rq_o2 ⟨j, by omega⟩).2, h1, h2, hF j (by omega), nI_add, nI_add, fr F, fr (fun x => if x % 8 = 6 then F x else 0)]
    by_cases h6 : j % 8 = 6
    · rw [if_pos (show nI (j % 8) = 6 by rw [h6]; rfl), if_pos h6]
      obtain ⟨i1, i2, i3⟩ := ih (j + 1) (mj_upI (mj_upI A' 25 0 (nI (a + F j))) 25 1 (nI (e + F j))) F (a + F j) (e + F j) (by omega) (fun x hx => by rw [mj_upI_ne (by decide), mj_upI_ne (by decide)]; exact hF x hx) (by rw [mj_upI_eq, if_neg (by decide), mj_upI_eq, if_pos rfl]) (by rw [mj_upI_eq, if_pos rfl])
      refine ⟨fun x hx => by rw [i1 x hx, mj_upI_ne hx, mj_upI_ne hx], ?_, ?_⟩
      · rw [i2, Nat.add_assoc]
      · rw [i3, Nat.add_assoc]
    · rw [if_neg (show ¬ nI (j % 8) = 6 from fun hh => h6 ((rq_nIe (b := 6) (by omega) (by omega)).mp hh)), if_neg h6]
      obtain ⟨i1, i2, i3⟩ := ih (j + 1) (mj_upI A' 25 0 (nI (a + F j))) F (a + F j) e (by omega) (fun x hx => by rw [mj_upI_ne (by decide)]; exact hF x hx) (by rw [mj_upI_eq, if_pos rfl]) (by rw [mj_upI_eq, if_neg (by decide)]; exact h2)
      refine ⟨fun x hx => by rw [i1 x hx, mj_upI_ne hx], ?_, ?_⟩
      · rw [i2, Nat.add_assoc]
      · rw [i3, Nat.zero_add]
theorem rq_tot5 (hm : m ≤ 6) {N : Nat → Nat → Nat} : rq_S 48 (fun i => rq_F5 m N (0 + i)) = rq_tt m N ∧ rq_S 48 (fun i => if (0 + i) % 8 = 6 then rq_F5 m N (0 + i) else 0) = rq_S m (fun s => N 6 s) := by
  have key : ∀ f : Nat → Nat → Nat, (∀ g s, (m ≤ s ∨ 7 ≤ g) → f g s = 0) → rq_S 48 (fun i => f ((0 + i) % 8) ((0 + i) / 8)) = rq_S m (fun s => rq_S 7 (fun g => f g s)) := by
    intro f hf
    have e1 := rq_S_rows (f := fun i => f ((0 + i) % 8) ((0 + i) / 8)) 8 6
    rw [show 6 * 8 = 48 from rfl] at e1
    rw [e1, rq_S_eq (g := fun s => rq_S 8 (fun g => f g s)) 6 (fun s _ => rq_S_eq 8 (fun g hg => by
      show f ((0 + (s * 8 + g)) % 8) ((0 + (s * 8 + g)) / 8) = f g s
      rw [show (0 + (s * 8 + g)) % 8 = g by omega, show (0 + (s * 8 + g)) / 8 = s by omega]))]
    rw [rq_S_cut (m := m) hm (fun s hs => by rw [rq_S_eq (g := fun _ => 0) 8 (fun g _ => hf g s (Or.inl hs)), rq_S_0])]
    exact rq_S_eq m (fun s _ => rq_S_cut (m := 7) (by omega) (fun g hg => hf g s (Or.inr hg)))
  constructor
  · have k1 := key (fun g s => if s < m ∧ g < 7 then N g s else 0) (fun g s h => if_neg (by omega))
    refine Eq.trans k1 ?_
    unfold rq_tt
    rw [rq_S_swap (f := fun g s => N g s) m 7]
    exact rq_S_eq m (fun s hs => rq_S_eq 7 (fun g hg => if_pos ⟨hs, hg⟩))
  · have k1 := key (fun g s => if g = 6 then (if s < m ∧ g < 7 then N g s else 0) else 0) (fun g s h => by
      show (if g = 6 then (if s < m ∧ g < 7 then N g s else 0) else 0) = 0
      rw [if_neg (show ¬ (s < m ∧ g < 7) by omega), ite_self])
    refine Eq.trans k1 (rq_S_eq m (fun s hs => ?_))
    show 0 + (if 0 = 6 then _ else 0) + (if 1 = 6 then _ else 0) + (if 2 = 6 then _ else 0) + (if 3 = 6 then _ else 0) + (if 4 = 6 then _ else 0) + (if 5 = 6 then _ else 0) + (if 6 = 6 then (if s < m ∧ 6 < 7 then N 6 s else 0) else 0) = N 6 s
    rw [if_neg (by decide), if_neg (by decide), if_neg (by decide), if_neg (by decide), if_neg (by decide), if_neg (by decide), if_pos rfl, if_pos ⟨hs, by decide⟩]
    omega
theorem rq_gg5 (hcc : cc = 2 ∨ cc = 10) (hm : m ≤ 6) (hp3 : p ≤ 3) (hP : mj_rP cc p A B) {q : Nat} (hq : q < p) (a : Int32) (v : Nat) : ∀ (k j x : Nat) (N : Nat → Nat → Nat) (A' : mj_I), rq_gd m (A (cc + 3) (nI q)) N x → 6 ^ k * x < 2000000 → rq_W5 cc m A A' N → (∀ x, x ≠ 25 → x ≠ 26 → x ≠ 27 → s_X0_gg cc m (nI q) a v k j A' x = A x) ∧ s_X0_gg cc m (nI q) a v k j A' 25 0 = nI (rq_tt m (rq_it m (rq_E A cc) (rq_sg A cc q) k N)) ∧ s_X0_gg cc m (nI q) a v k j A' 25 1 = nI (rq_S m (fun s => rq_it m (rq_E A cc) (rq_sg A cc q) k N 6 s)) := by
  intro k
  induction k with
  | zero =>
    intro j x N A' hN hx h
    rw [s_X0_gg]
    unfold s_X0_count
    obtain ⟨c1, c2, c3⟩ := rq_ct5 48 0 (mj_upI (mj_upI A' 25 0 0) 25 1 0) (rq_F5 m N) 0 0 rfl (fun x hx => by rw [mj_upI_ne (by decide), mj_upI_ne (by decide)]; exact h.2 x hx) (by rw [mj_upI_eq, if_neg (by decide), mj_upI_eq, if_pos rfl]; rfl) (by rw [mj_upI_eq, if_pos rfl]; rfl)
    obtain ⟨t1, t2⟩ := rq_tot5 (N := N) hm
    rw [c2, c3, t1, t2, Nat.zero_add, Nat.zero_add]
    refine ⟨fun x a1 a2 a3 => ?_, rfl, rfl⟩
    rw [c1 x a1, mj_upI_ne a1, mj_upI_ne a1, h.1 x a1 a2 a3]
  | succ k ih =>
    intro j x N A' hN hx h
    rw [s_X0_gg]
    have p1 : ∀ k, 1 ≤ 6 ^ k := by
      intro k
      induction k with
      | zero => decide
      | succ k ih => rw [Nat.pow_succ]; omega
    have p1 := p1 k
    have hx2 : x < 2000000 := by
      rw [Nat.pow_succ] at hx
      have : 1 * x ≤ 6 ^ k * 6 * x := Nat.mul_le_mul_right x (by omega)
      omega
    exact ih (j + 1) (6 * x) _ _ (rq_gd_nx hm hp3 hP hq hN) (by rw [← Nat.mul_assoc, ← Nat.pow_succ]; exact hx) (rq_day5 hcc hm hp3 hP hq hN hx2 h)
end VO
