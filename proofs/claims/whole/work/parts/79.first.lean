/-! the quickest: the first state, and what may be asked of it -/
def rq_bg (x j : Nat) : Nat := if x.testBit j = true then 0 else 6
def rq_sn (x s : Nat) : Nat := 6 * (rq_bg x 0 + 7 * rq_bg x 1 + 49 * rq_bg x 2) + s
theorem rq_w8 : ∀ p : Fin 4, ((1 : Int32) <<< (nI p.1 &&& 31)) - 1 = nI (2 ^ p.1 - 1) := by decide +kernel
section VX
variable {cc m p R : Nat} {A B : mj_I}
theorem rq_win {v : Int32} {B : mj_I} (hp3 : p ≤ 3) (h6 : B 42 6 = nI p) (h : ¬ s_X6_within v 0 ((1 <<< (B 42 6 &&& 31)) - 1) B = 0) : ∃ x, x < 2 ^ p ∧ v = nI x := by
  rw [h6, show ((1 : Int32) <<< (nI p &&& 31)) - 1 = nI (2 ^ p - 1) from rq_w8 ⟨p, by omega⟩] at h
  have p2 : 2 ^ p ≤ 8 := Nat.pow_le_pow_right (n := 2) (by omega) hp3
  have p1 := Nat.two_pow_pos p
  unfold s_X6_within at h
  by_cases h1 : v < 0
  · rw [if_pos h1] at h; exact absurd rfl h
  · rw [if_neg h1] at h
    by_cases h2 : nI (2 ^ p - 1) < v
    · rw [if_pos h2] at h; exact absurd rfl h
    · have a1 := mj_i0 h1
      have a2 := mj_iN h2
      rw [nI_toInt (by omega)] at a2
      exact ⟨v.toInt.toNat, by omega, mj_ofI (by rw [nI_toInt (by omega)]; omega)⟩
theorem rq_ff {x s k j g f : Nat} (I : mj_I) (hx : x < 8) (hj : j < 3) : s_X6_ff (nI x) (nI s) (k + 1) j (nI g) (nI f) I = s_X6_ff (nI x) (nI s) k (j + 1) (nI (g + f * rq_bg x j)) (nI (f * 7)) I := by
  have e7 : nI f * 7 = nI (f * 7) := rq_mul f 7
  have e6 : nI f * 6 = nI (f * 6) := rq_mul f 6
  rw [s_X6_ff, rq_bit (show x < 64 by omega) (show j < 6 by omega), e7, e6]
  unfold rq_bg
  cases x.testBit j with
  | true =>
    rw [if_pos (show nI (true).toNat = 1 from rfl), if_pos rfl]
    simp only [Nat.mul_zero, Nat.add_zero, Int32.add_zero]
  | false => rw [if_neg (show ¬ nI (false).toNat = 1 by decide), if_neg (show ¬ (false : Bool) = true by decide), nI_add]
theorem rq_FO {x s : Nat} (I : mj_I) (hx : x < 8) : mj6_FO (nI x) (nI s) I = mj6_B (nI (rq_sn x s)) (nI s) I := by
  unfold mj6_FO s_X6_firstOf
  have a0 := rq_ff (s := s) (k := 2) (j := 0) (g := 0) (f := 6) I hx (by omega)
  have a1 := rq_ff (s := s) (k := 1) (j := 1) (g := 0 + 6 * rq_bg x 0) (f := 6 * 7) I hx (by omega)
  have a2 := rq_ff (s := s) (k := 0) (j := 2) (g := 0 + 6 * rq_bg x 0 + 6 * 7 * rq_bg x 1) (f := 6 * 7 * 7) I hx (by omega)
  have all : s_X6_ff (nI x) (nI s) 3 0 0 6 I = _ := a0.trans (a1.trans a2)
  rw [all, s_X6_ff, nI_add]
  dsimp only
  rw [show 0 + 6 * rq_bg x 0 + 6 * 7 * rq_bg x 1 + 6 * 7 * 7 * rq_bg x 2 + s = rq_sn x s by unfold rq_sn; omega]
theorem rq_sn_ok (hp3 : p ≤ 3) {x s : Nat} (hx : x < 2 ^ p) (hs : s < m) (hm : m ≤ 6) : rq_sn x s < 2058 ∧ rq_okv A cc m p (rq_sn x s) ∧ rq_sn x s % 6 = s := by
  have bg : ∀ j, rq_bg x j = 0 ∨ rq_bg x j = 6 := fun j => by unfold rq_bg; split <;> omega
  have b0 := bg 0
  have b1 := bg 1
  have b2 := bg 2
  have ok : ∀ j, rq_okg A cc p j (rq_bg x j) := by
    intro j
    refine ⟨fun _ => Or.inr (by rcases bg j with q | q <;> rw [q]), fun hj => ?_⟩
    have : x < 2 ^ j := Nat.lt_of_lt_of_le hx (Nat.pow_le_pow_right (by omega) hj)
    unfold rq_bg
    rw [Nat.testBit_lt_two_pow this]
    rfl
  have q0 : rq_sn x s / 6 % 7 = rq_bg x 0 := by unfold rq_sn; omega
  have q1 : rq_sn x s / 42 % 7 = rq_bg x 1 := by unfold rq_sn; omega
  have q2 : rq_sn x s / 294 % 7 = rq_bg x 2 := by unfold rq_sn; omega
  have q3 : rq_sn x s % 6 = s := by unfold rq_sn; omega
  refine ⟨by unfold rq_sn; omega, ?_, q3⟩
  unfold rq_okv
  rw [q0, q1, q2, q3]
  exact ⟨⟨ok 0, ok 1, ok 2⟩, hs⟩
/-- a way that is a day nearer -/
theorem rq_near (hR : mj_RL cc m p R A B) {T : Nat → Nat} (hr : rq_ri A cc m p 23 T) {y : Nat} (hy : y < 2058) (hok : rq_okv A cc m p y) (h9 : T y ≠ 1000) (h1 : 1 ≤ T y) : ∃ t, t < m ∧ rq_E A cc (y % 6) t = true ∧ T (rq_bv A cc y t) + 1 = T y := by
  rcases hr y hy hok with q | ⟨q1, q2, q3⟩
  · exact absurd q.1 h9
  · obtain ⟨d, hd⟩ : ∃ d, T y = d + 1 := ⟨T y - 1, by omega⟩
    rw [hd] at q2 q3
    rcases q2 with q | ⟨t, ht, hE, q⟩
    · exact absurd q (q3 d (by omega))
    · obtain ⟨_, b2, b3⟩ := rq_Bv hR hy hok ht
      refine ⟨t, ht, hE, ?_⟩
      rcases hr _ b2 b3 with w | ⟨w1, w2, w3⟩
      · exact absurd (rq_cn_up q (by omega)) w.2
      · have le : T (rq_bv A cc y t) ≤ d := by
          rcases Nat.lt_or_ge d (T (rq_bv A cc y t)) with u | u
          · exact absurd q (w3 d u)
          · exact u
        have ge : ¬ T (rq_bv A cc y t) + 1 < d + 1 := fun u => q3 _ u (Or.inr ⟨t, ht, hE, w2⟩)
        omega
theorem rq_N6 (hR : mj_RL cc m p R A B) {I : mj_I} {T : Nat → Nat} (hf : rq_ft A cc m p B I T) (hr : rq_ri A cc m p 23 T) : mj6_N m I := by
  have hce := rq_ce_ft hf
  constructor
  · intro v hv hs h1
    obtain ⟨y, hy, rfl⟩ := mj6_nat hv (by omega)
    rw [mj6_is_eq hce] at hs
    have hok := (rq_isv hR hy).mp hs
    obtain ⟨t1, t2⟩ := hf.2.2 y hy hok
    have h9 : T y ≠ 1000 := fun q => by
      rw [t1, (rq_cd9 t2).mpr q, show ((-9 : Int32)).toInt = -9 by decide] at h1
      omega
    have e1 : rq_cd (T y) = nI (T y) := if_neg h9
    rw [t1, e1, nI_toInt (by omega)] at h1
    obtain ⟨t, ht, hE, hT⟩ := rq_near hR hr hy hok h9 (by omega)
    obtain ⟨b1, b2, b3⟩ := rq_Bv hR hy hok ht
    refine ⟨t, by omega, ht, ?_, ?_⟩
    · rw [rq_goE hR hce.2.2.2.1 hy hok, hE]; decide
    · rw [mj6_B_eq hce, b1, t1, e1, ← hT, rq_sub1, (hf.2.2 _ b2 b3).1]
      exact if_neg (by omega)
  · intro v hv hs t ht
    obtain ⟨y, hy, rfl⟩ := mj6_nat hv (by omega)
    rw [mj6_is_eq hce] at hs
    obtain ⟨b1, b2, b3⟩ := rq_Bv hR hy ((rq_isv hR hy).mp hs) ht
    rw [mj6_B_eq hce, b1, mj6_is_eq hce]
    exact ⟨mj_in_nI b2 (by omega), (rq_isv hR b2).mpr b3⟩
theorem rq_qQ (hc : cc = 2 ∨ cc = 10) (h : mj_RL cc m p R A B) (v s : Int32) : ¬ s_X6_isStreet s B = 0 → ¬ s_X6_within v 0 ((1 <<< (B 42 6 &&& 31)) - 1) B = 0 → mj6_Q1 m (s_X6_findToGo m B) (mj6_FO v s (s_X6_findToGo m B)) := by
  intro hs hv
  have hm := h.1.1
  have hp3 := h.1.2.1
  obtain ⟨x, hx, rfl⟩ := rq_win hp3 h.2.1.2.1.2 hv
  rw [rq_st_eq h.2.1.1.2] at hs
  rcases rq_has (n := m) (by omega) s with ⟨s, hs2, rfl, _⟩ | e
  · obtain ⟨T, f1, f2, f3⟩ := rq_ftg h
    have hce := rq_ce_ft f1
    have p2 : 2 ^ p ≤ 8 := Nat.pow_le_pow_right (n := 2) (by omega) hp3
    obtain ⟨n1, n2, n3⟩ := rq_sn_ok (A := A) (cc := cc) hp3 hx hs2 hm
    obtain ⟨b1, b2, b3⟩ := rq_Bv h n1 n2 hs2
    rw [rq_FO _ (by omega), mj6_B_eq hce, b1]
    exact ⟨mj_in_nI b2 (by omega), by rw [mj6_is_eq hce]; exact (rq_isv h b2).mpr b3, rq_N6 h f1 f2⟩
  · rw [e] at hs; exact absurd rfl hs
end VX
