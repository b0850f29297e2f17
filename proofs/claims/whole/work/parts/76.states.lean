/-! the quickest: states as numbers -/
def rq_okg (A : mj_I) (cc p j g : Nat) : Prop := (j < p → A (cc + 3) (nI j) = 1 ∨ g % 2 = 0) ∧ (p ≤ j → g = 6)
def rq_okv (A : mj_I) (cc m p x : Nat) : Prop := (rq_okg A cc p 0 (x / 6 % 7) ∧ rq_okg A cc p 1 (x / 42 % 7) ∧ rq_okg A cc p 2 (x / 294 % 7)) ∧ x % 6 < m
/-- the number behind a day -/
def rq_bv (A : mj_I) (cc x t : Nat) : Nat := 6 * (rq_sg A cc 0 (x / 6 % 7) t + 7 * rq_sg A cc 1 (x / 42 % 7) t + 49 * rq_sg A cc 2 (x / 294 % 7) t) + t
theorem rq_d7 {G : Nat} (h : G < 2000000) : nI G / 7 = nI (G / 7) ∧ nI G - nI G / 7 * 7 = nI (G % 7) := by
  have := rq_mod (F := G) (G := 7) h (by omega) (by omega)
  exact ⟨this.2, this.1⟩
theorem rq_d6 {G : Nat} (h : G < 2000000) : nI G / 6 = nI (G / 6) ∧ nI G - nI G / 6 * 6 = nI (G % 6) := by
  have := rq_mod (F := G) (G := 6) h (by omega) (by omega)
  exact ⟨this.2, this.1⟩
theorem rq_sg6 (A : mj_I) (cc j t : Nat) : rq_sg A cc j 6 t = 6 := by
  unfold rq_sg sp_g sp_gr
  rw [if_neg (show ¬ nI 6 < 0 by decide), if_neg (show ¬ nI 6 < 6 by decide)]
  rfl
theorem rq_mul (a x : Nat) : nI a * nI x = nI (a * x) := (Int32.ofNat_mul a x).symm
section VS
variable {cc m p R : Nat} {A B : mj_I}
theorem rq_fk {j g : Nat} (h : rq_okg A cc p j g) (hj : j < p) (hg : g < 7) : mj6_fok (A (cc + 3) (nI j)) (nI g) := by
  refine ⟨mj_in_nI hg (by omega), ?_⟩
  rcases h.1 hj with e | e
  · exact Or.inl e
  · have : g = 0 ∨ g = 2 ∨ g = 4 ∨ g = 6 := by omega
    rcases this with rfl | rfl | rfl | rfl
    · exact Or.inr (Or.inl rfl)
    · exact Or.inr (Or.inr (Or.inl rfl))
    · exact Or.inr (Or.inr (Or.inr (Or.inl rfl)))
    · exact Or.inr (Or.inr (Or.inr (Or.inr rfl)))
theorem rq_kf {j g : Nat} (hg : g < 7) (h : mj6_fok (A (cc + 3) (nI j)) (nI g)) : A (cc + 3) (nI j) = 1 ∨ g % 2 = 0 := by
  rcases h.2 with e | e | e | e | e
  · exact Or.inl e
  · have := (rq_nIe (b := 0) (by omega) (by omega)).mp e; exact Or.inr (by omega)
  · have := (rq_nIe (b := 2) (by omega) (by omega)).mp e; exact Or.inr (by omega)
  · have := (rq_nIe (b := 4) (by omega) (by omega)).mp e; exact Or.inr (by omega)
  · have := (rq_nIe (b := 6) (by omega) (by omega)).mp e; exact Or.inr (by omega)
/-- one plant's growth on a day -/
theorem rq_okn (hp3 : p ≤ 3) (hP : mj_rP cc p A B) {j g t : Nat} (hj3 : j < 3) (hg : g < 7) (h : rq_okg A cc p j g) : sp_g A cc (nI j) (nI g) (A (cc + 1) (nI t)) = nI (rq_sg A cc j g t) ∧ rq_sg A cc j g t < 7 ∧ rq_okg A cc p j (rq_sg A cc j g t) := by
  by_cases hj : j < p
  · obtain ⟨v1, v2, v3⟩ := rq_sgv (t := t) hp3 hP hj (rq_fk h hj hg)
    exact ⟨v1, v2, fun _ => rq_kf v2 v3, fun hh => absurd hj (by omega)⟩
  · have e : g = 6 := h.2 (by omega)
    subst e
    rw [rq_sg6]
    refine ⟨?_, by omega, fun hh => absurd hh hj, fun _ => rfl⟩
    unfold sp_g sp_gr
    rw [if_neg (show ¬ nI 6 < 0 by decide), if_neg (show ¬ nI 6 < 6 by decide)]
    rfl
theorem rq_is1 (hR : mj_RL cc m p R A B) (v : Int32) {k j G : Nat} (hj : j < 3) (hG : G < 3000) : (rq_okg A cc p j (G % 7) → s_X6_is v B (k + 1) j (nI G) = s_X6_is v B k (j + 1) (nI (G / 7))) ∧ (¬ rq_okg A cc p j (G % 7) → s_X6_is v B (k + 1) j (nI G) = 0) := by
  have hp3 := hR.1.2.1
  obtain ⟨d1, d2⟩ := rq_d7 (G := G) (by omega)
  have d3 := (rq_mod (F := G % 7) (G := 2) (by omega) (by omega) (by omega)).1
  have d3' : nI (G % 7) - nI (G % 7) / 2 * 2 = nI (G % 7 % 2) := d3
  rw [s_X6_is, hR.2.1.2.1.2, d2, d3', d1]
  by_cases h : j < p
  · rw [if_pos (nI_lt h (by omega)), (hR.2.2.2.2.1 j h).1]
    by_cases h1 : A (cc + 3) (nI j) = 1
    · rw [if_pos h1]
      exact ⟨fun _ => rfl, fun q => absurd ⟨fun _ => Or.inl h1, fun g => absurd h (by omega)⟩ q⟩
    · rw [if_neg h1]
      by_cases h2 : G % 7 % 2 = 1
      · rw [if_pos (show nI (G % 7 % 2) = 1 by rw [h2]; rfl)]
        exact ⟨fun q => (q.1 h).elim (fun a => absurd a h1) (fun a => absurd a (by omega)), fun _ => rfl⟩
      · rw [if_neg (show ¬ nI (G % 7 % 2) = 1 from fun q => h2 ((rq_nIe (b := 1) (by omega) (by omega)).mp q))]
        exact ⟨fun _ => rfl, fun q => absurd ⟨fun _ => Or.inr (by omega), fun g => absurd h (by omega)⟩ q⟩
  · rw [if_neg (nI_nlt (by omega) (by omega))]
    by_cases h6 : G % 7 = 6
    · rw [if_pos (show nI (G % 7) = 6 by rw [h6]; rfl)]
      exact ⟨fun _ => rfl, fun q => absurd ⟨fun g => absurd g h, fun _ => h6⟩ q⟩
    · rw [if_neg (show ¬ nI (G % 7) = 6 from fun q => h6 ((rq_nIe (b := 6) (by omega) (by omega)).mp q))]
      exact ⟨fun q => absurd (q.2 (by omega)) h6, fun _ => rfl⟩
theorem rq_isv (hR : mj_RL cc m p R A B) {x : Nat} (hx : x < 2058) : ¬ s_X6_isState (nI x) B = 0 ↔ rq_okv A cc m p x := by
  have hm := hR.1.1
  obtain ⟨d1, d2⟩ := rq_d6 (G := x) (by omega)
  unfold s_X6_isState rq_okv
  rw [d1]
  have e1 : x / 42 % 7 = x / 6 / 7 % 7 := by rw [Nat.div_div_eq_div_mul]
  have e2 : x / 294 % 7 = x / 6 / 7 / 7 % 7 := by rw [Nat.div_div_eq_div_mul, Nat.div_div_eq_div_mul]
  rw [e1, e2]
  obtain ⟨a1, a2⟩ := rq_is1 hR (nI x) (k := 2) (j := 0) (G := x / 6) (by omega) (by omega)
  by_cases h0 : rq_okg A cc p 0 (x / 6 % 7)
  · rw [a1 h0]
    obtain ⟨b1, b2⟩ := rq_is1 hR (nI x) (k := 1) (j := 1) (G := x / 6 / 7) (by omega) (by omega)
    by_cases h1 : rq_okg A cc p 1 (x / 6 / 7 % 7)
    · rw [b1 h1]
      obtain ⟨c1, c2⟩ := rq_is1 hR (nI x) (k := 0) (j := 2) (G := x / 6 / 7 / 7) (by omega) (by omega)
      by_cases h2 : rq_okg A cc p 2 (x / 6 / 7 / 7 % 7)
      · rw [c1 h2, s_X6_is, d1, hR.2.1.1.2]
        have d2' : nI x - nI (x / 6) * 6 = nI (x % 6) := by rw [← d1]; exact d2
        rw [d2']
        by_cases h3 : x % 6 < m
        · rw [if_pos (nI_lt h3 (by omega))]
          exact ⟨fun _ => ⟨⟨h0, h1, h2⟩, h3⟩, fun _ => by decide⟩
        · rw [if_neg (nI_nlt (by omega) (by omega))]
          exact ⟨fun q => absurd rfl q, fun q => absurd q.2 h3⟩
      · rw [c2 h2]
        exact ⟨fun q => absurd rfl q, fun q => absurd q.1.2.2 h2⟩
    · rw [b2 h1]
      exact ⟨fun q => absurd rfl q, fun q => absurd q.1.2.1 h1⟩
  · rw [a2 h0]
    exact ⟨fun q => absurd rfl q, fun q => absurd q.1.1 h0⟩
theorem rq_bh1 (hR : mj_RL cc m p R A B) (v : Int32) {k j G f e t : Nat} (hj : j < 3) (hG : G < 3000) (ht : t < m) (hok : rq_okg A cc p j (G % 7)) : s_X6_bh v (nI t) (k + 1) j (nI G) (nI f) (nI e) B = s_X6_bh v (nI t) k (j + 1) (nI (G / 7)) (nI (f + e * rq_sg A cc j (G % 7) t)) (nI (e * 7)) B := by
  have hp3 := hR.1.2.1
  obtain ⟨d1, d2⟩ := rq_d7 (G := G) (by omega)
  obtain ⟨n1, n2, n3⟩ := rq_okn (t := t) hp3 hR.2.2.2.2.1 hj (Nat.mod_lt G (by omega)) hok
  have mul : ∀ a x : Nat, nI a * nI x = nI (a * x) := fun a x => (Int32.ofNat_mul a x).symm
  have e7 : nI e * 7 = nI (e * 7) := mul e 7
  rw [s_X6_bh, rq_pl_eq hR.2.1.2.1.2, d2, d1, e7]
  rcases rq_has (n := p) (by omega) (nI j) with ⟨i, hi, ei, es⟩ | es
  · have : j = i := (rq_nIe (by omega) (by omega)).mp ei
    subst this
    rw [es, if_neg (show ¬ bI true = 0 by decide), rq_onBy hp3 hR.2.2.2.2.1 hi (mj_in_nI (Nat.mod_lt G (by omega)) (by omega)), (hR.2.2.2.1.1 t ht).1, n1, mul, nI_add]
  · have hnj : ¬ j < p := by
      intro h
      have : sp_has (nI p) (nI j) = true := by
        unfold sp_has
        rw [if_neg (rq_neg1 (by omega)), if_pos (nI_lt h (by omega))]
      rw [this] at es
      exact absurd es (by decide)
    have h6 := hok.2 (by omega)
    rw [es, if_pos (show bI false = 0 from rfl), h6, rq_sg6, mul, nI_add]
theorem rq_Bv (hR : mj_RL cc m p R A B) {x t : Nat} (hx : x < 2058) (hok : rq_okv A cc m p x) (ht : t < m) : mj6_B (nI x) (nI t) B = nI (rq_bv A cc x t) ∧ rq_bv A cc x t < 2058 ∧ rq_okv A cc m p (rq_bv A cc x t) := by
  have hm := hR.1.1
  have hp3 := hR.1.2.1
  obtain ⟨⟨k0, k1, k2⟩, k3⟩ := hok
  obtain ⟨d1, d2⟩ := rq_d6 (G := x) (by omega)
  have e1 : x / 42 % 7 = x / 6 / 7 % 7 := by rw [Nat.div_div_eq_div_mul]
  have e2 : x / 294 % 7 = x / 6 / 7 / 7 % 7 := by rw [Nat.div_div_eq_div_mul, Nat.div_div_eq_div_mul]
  have n0 := rq_okn (t := t) hp3 hR.2.2.2.2.1 (show 0 < 3 by omega) (Nat.mod_lt (x / 6) (by omega)) k0
  have n1 := rq_okn (t := t) hp3 hR.2.2.2.2.1 (show 1 < 3 by omega) (Nat.mod_lt (x / 42) (by omega)) k1
  have n2 := rq_okn (t := t) hp3 hR.2.2.2.2.1 (show 2 < 3 by omega) (Nat.mod_lt (x / 294) (by omega)) k2
  refine ⟨?_, ?_, ?_⟩
  · unfold mj6_B s_X6_behind rq_bv
    rw [d1]
    rw [e1] at k1 ⊢
    rw [e2] at k2 ⊢
    have b0 := rq_bh1 hR (nI x) (k := 2) (G := x / 6) (f := 0) (e := 1) (show 0 < 3 by omega) (by omega) ht k0
    have b1 := rq_bh1 hR (nI x) (k := 1) (G := x / 6 / 7) (f := 0 + 1 * rq_sg A cc 0 (x / 6 % 7) t) (e := 1 * 7) (show 1 < 3 by omega) (by omega) ht k1
    have b2 := rq_bh1 hR (nI x) (k := 0) (G := x / 6 / 7 / 7) (f := 0 + 1 * rq_sg A cc 0 (x / 6 % 7) t + 1 * 7 * rq_sg A cc 1 (x / 6 / 7 % 7) t) (e := 1 * 7 * 7) (show 2 < 3 by omega) (by omega) ht k2
    have all := b0.trans (b1.trans b2)
    have fin : s_X6_bh (nI x) (nI t) 3 0 (nI (x / 6)) 0 1 B = s_X6_bh (nI x) (nI t) 0 3 (nI (x / 6 / 7 / 7 / 7)) (nI (0 + 1 * rq_sg A cc 0 (x / 6 % 7) t + 1 * 7 * rq_sg A cc 1 (x / 6 / 7 % 7) t + 1 * 7 * 7 * rq_sg A cc 2 (x / 6 / 7 / 7 % 7) t)) (nI (1 * 7 * 7 * 7)) B := all
    rw [fin, s_X6_bh]
    show nI _ * nI 6 + nI t = _
    rw [rq_mul, nI_add]
    congr 1
    omega
  · unfold rq_bv
    have := n0.2.1
    have := n1.2.1
    have := n2.2.1
    omega
  · have a0 := n0.2.1
    have a1 := n1.2.1
    have a2 := n2.2.1
    have q0 : rq_bv A cc x t / 6 % 7 = rq_sg A cc 0 (x / 6 % 7) t := by unfold rq_bv; omega
    have q1 : rq_bv A cc x t / 42 % 7 = rq_sg A cc 1 (x / 42 % 7) t := by unfold rq_bv; omega
    have q2 : rq_bv A cc x t / 294 % 7 = rq_sg A cc 2 (x / 294 % 7) t := by unfold rq_bv; omega
    have q3 : rq_bv A cc x t % 6 = t := by unfold rq_bv; omega
    unfold rq_okv
    rw [q0, q1, q2, q3]
    exact ⟨⟨n0.2.2, n1.2.2, n2.2.2⟩, ht⟩
theorem rq_F (h : mj_RL cc m p R A B) : mj6_F m B := by
  refine ⟨h.2.1.1.2, fun x hx hs t ht => ?_⟩
  obtain ⟨b1, b2, _⟩ := rq_Bv h hx ((rq_isv h hx).mp hs) ht
  rw [b1]
  exact mj_in_nI b2 (by omega)
end VS
