/-! the reader's corners and streets -/
section VQ
variable {dd k i n : Nat} {A0 B0 : mj_I}
theorem rq_m48 {v : Int32} {x : Nat} : v - 48 = nI x ↔ v = 48 + nI x := by
  constructor
  · intro h
    rw [← h, Int32.add_comm, Int32.sub_add_cancel]
  · intro h
    rw [h, Int32.add_comm, Int32.add_sub_cancel]
theorem rq_set1 (I : mj_I) (a x y : Nat) : sp_setc I a (nI x) (nI y) 1 = mj_upI (mj_upI I a (nI x) (I a (nI x) ||| (1 <<< (nI y &&& 31)))) a (nI y) (mj_upI I a (nI x) (I a (nI x) ||| (1 <<< (nI y &&& 31))) a (nI y) ||| (1 <<< (nI x &&& 31))) := by
  unfold sp_setc
  rw [if_neg (show ¬ (1 : Int32) = 0 by decide)]
theorem rq_SC_set {m x y : Nat} {A B : mj_I} (hd : dd = 2 ∨ dd = 10) (h : rq_SC dd m A B) (hx : x < m) (hy : y < m) (hxy : x ≠ y) : rq_SC dd m (sp_setc A (dd + 2) (nI x) (nI y) 1) (sp_setc B 51 (nI x) (nI y) 1) := by
  obtain ⟨⟨hm, h1, h2⟩, hs, hc, hCO⟩ := h
  have hCO0 := hCO
  obtain ⟨q, hq, _, _⟩ := hCO
  have fA : ∀ z, z ≠ dd + 2 → sp_setc A (dd + 2) (nI x) (nI y) 1 z = A z := fun z hz => by rw [rq_set1, mj_upI_ne hz, mj_upI_ne hz]
  have fB : ∀ z, z ≠ 51 → sp_setc B 51 (nI x) (nI y) 1 z = B z := fun z hz => by rw [rq_set1, mj_upI_ne hz, mj_upI_ne hz]
  refine ⟨⟨hm, ?_, ?_⟩, ?_, fun s hs2 => ?_, rq_CO_set hm hCO0 hx hy hxy⟩
  · rw [fA dd (by omega)]; exact h1
  · rw [fB 42 (by decide)]; exact h2
  · rw [fA (dd + 1) (by omega), fB 50 (by decide)]; exact hs
  · rw [rq_x5set, rq_x5set]
    exact (rq_set2 (v := 1) (C := A (dd + 2)) hm hq hx hy hxy (I := B) (k := 51) hc s hs2).trans (rq_set2 (v := 1) (C := A (dd + 2)) hm hq hx hy hxy (I := A) (k := dd + 2) (fun s _ => rfl) s hs2).symm
theorem rq_SC_y {m : Nat} {A B : mj_I} {v w : Int32} (hd : dd = 2 ∨ dd = 10) (h : rq_SC dd m A B) : rq_SC dd m (mj_upI A 18 3 v) (mj_upI B 42 11 w) := by
  refine rq_SC_eq ?_ (mj_upI_ne (by omega)) (mj_upI_ne (by omega)) ?_ (mj_upI_ne (by decide)) (mj_upI_ne (by decide)) h
  · rw [mj_upI_ne (by omega)]
  · rw [mj_upI_eq, if_neg (by decide)]
/-- one corner, behind its sign -/
theorem rq_crn (hK : rq_RC dd k i n A0 B0) {m y : Nat} {A B : mj_I} (h : rq_RB dd k i n A0 B0 y A B) (hS : rq_SC dd m A B) (hm : 2 ≤ m) :
    (s_X2_takeDigit (34 + 2 * k + 1) 0 (A dd 0 - 1) A = (-1, A) ∧ s_X6_readCorner (nI (60 * k + i + n)) B = (0, B)) ∨
    ∃ x, x < m ∧ ∃ A2 B2 : mj_I, s_X2_takeDigit (34 + 2 * k + 1) 0 (A dd 0 - 1) A = (nI x, A2) ∧ ∃ y2, rq_RB dd k i n A0 B0 y2 A2 B2 ∧ rq_SC dd m A2 B2 ∧ B2 42 13 = B 42 13 ∧
      ((¬ s_X2_sees (34 + 2 * k + 1) (48 + nI x) A2 = 0 ∧ s_X6_readCorner (nI (60 * k + i + n)) B = (0, B2)) ∨ (s_X2_sees (34 + 2 * k + 1) (48 + nI x) A2 = 0 ∧ s_X2_takeDigit (34 + 2 * k + 1) 0 (A2 dd 0 - 1) A2 = (-1, A2) ∧ s_X6_readCorner (nI (60 * k + i + n)) B = (0, B2)) ∨ (s_X2_sees (34 + 2 * k + 1) (48 + nI x) A2 = 0 ∧ ∃ u, u < m ∧ ∃ A3 B3 : mj_I, s_X2_takeDigit (34 + 2 * k + 1) 0 (A2 dd 0 - 1) A2 = (nI u, A3) ∧ (∃ y3, rq_RB dd k i n A0 B0 y3 (sp_setc A3 (dd + 2) (nI x) (nI u) 1) B3) ∧ s_X6_readCorner (nI (60 * k + i + n)) B = (1, B3) ∧ rq_SC dd m (sp_setc A3 (dd + 2) (nI x) (nI u) 1) B3 ∧ B3 42 13 = B 42 13)) := by
  have hd := hK.1
  have hm6 := hS.1.1
  have em : ∀ {A B : mj_I}, rq_SC dd m A B → A dd 0 - 1 = nI (m - 1) ∧ B 42 12 - 1 = nI (m - 1) := by
    intro A B hS
    obtain ⟨j, rfl⟩ : ∃ j, m = j + 1 := ⟨m - 1, by omega⟩
    rw [hS.1.2.1, hS.1.2.2]
    exact ⟨rq_sub1 j, rq_sub1 j⟩
  obtain ⟨e1, e2⟩ := em hS
  rw [e1]
  rcases rq_dg (t := 0) (E := m - 1) hK h (by omega) (by omega) with ⟨x, _, hx, hy, hv, e5, e6⟩ | ⟨e5, e6⟩
  · have e6' : s_X6_digit (nI (60 * k + i + n)) 0 (nI (m - 1)) B = (nI x, mj_upI B 42 11 (nI (60 * k + i + (y + 1)))) := e6
    have h2 := rq_RB_y h hy
    have hS2 : rq_SC dd m (mj_upI A 18 3 (nI (y + 1))) (mj_upI B 42 11 (nI (60 * k + i + (y + 1)))) := rq_SC_y hd hS
    have h13 : mj_upI B 42 11 (nI (60 * k + i + (y + 1))) 42 13 = B 42 13 := by rw [mj_upI_eq, if_neg (by decide)]
    refine Or.inr ⟨x, by omega, _, mj_upI B 42 11 (nI (60 * k + i + (y + 1))), e5, y + 1, h2, hS2, h13, ?_⟩
    have es := rq_sees hK h2 (48 + nI x)
    have el := rq_lt42 hK h2
    obtain ⟨e3, e4⟩ := em hS2
    rw [es, e3]
    have rc : s_X6_readCorner (nI (60 * k + i + n)) B = if (y + 1 < n ∧ rq_at k i A0 (y + 1) = 48 + nI x) then ((0 : Int32), mj_upI B 42 11 (nI (60 * k + i + (y + 1)))) else (if (s_X6_digit (nI (60 * k + i + n)) 0 (nI (m - 1)) (mj_upI B 42 11 (nI (60 * k + i + (y + 1))))).1 = -9 then (0, (s_X6_digit (nI (60 * k + i + n)) 0 (nI (m - 1)) (mj_upI B 42 11 (nI (60 * k + i + (y + 1))))).2) else (1, mj_upI (mj_upI (s_X6_digit (nI (60 * k + i + n)) 0 (nI (m - 1)) (mj_upI B 42 11 (nI (60 * k + i + (y + 1))))).2 51 (nI x) ((s_X6_digit (nI (60 * k + i + n)) 0 (nI (m - 1)) (mj_upI B 42 11 (nI (60 * k + i + (y + 1))))).2 51 (nI x) ||| (1 <<< ((s_X6_digit (nI (60 * k + i + n)) 0 (nI (m - 1)) (mj_upI B 42 11 (nI (60 * k + i + (y + 1))))).1 &&& 31)))) 51 (s_X6_digit (nI (60 * k + i + n)) 0 (nI (m - 1)) (mj_upI B 42 11 (nI (60 * k + i + (y + 1))))).1 (mj_upI (s_X6_digit (nI (60 * k + i + n)) 0 (nI (m - 1)) (mj_upI B 42 11 (nI (60 * k + i + (y + 1))))).2 51 (nI x) ((s_X6_digit (nI (60 * k + i + n)) 0 (nI (m - 1)) (mj_upI B 42 11 (nI (60 * k + i + (y + 1))))).2 51 (nI x) ||| (1 <<< ((s_X6_digit (nI (60 * k + i + n)) 0 (nI (m - 1)) (mj_upI B 42 11 (nI (60 * k + i + (y + 1))))).1 &&& 31))) 51 (s_X6_digit (nI (60 * k + i + n)) 0 (nI (m - 1)) (mj_upI B 42 11 (nI (60 * k + i + (y + 1))))).1 ||| (1 <<< (nI x &&& 31))))) := by
      unfold s_X6_readCorner
      rw [e2, e6']
      dsimp only
      rw [if_neg (rq_m9 (show x < 1000 by omega)), e4]
      by_cases hy1 : y + 1 < n
      · have e45 := rq_B45 hK h2 hy1
        rw [if_pos (el.mpr hy1)]
        by_cases hv2 : rq_at k i A0 (y + 1) = 48 + nI x
        · rw [if_pos (show mj_upI B 42 11 (nI (60 * k + i + (y + 1))) 45 (mj_upI B 42 11 (nI (60 * k + i + (y + 1))) 42 11) - 48 = nI x by rw [e45]; exact rq_m48.mpr hv2), if_pos (show y + 1 < n ∧ rq_at k i A0 (y + 1) = 48 + nI x from ⟨hy1, hv2⟩)]
        · rw [if_neg (show ¬ mj_upI B 42 11 (nI (60 * k + i + (y + 1))) 45 (mj_upI B 42 11 (nI (60 * k + i + (y + 1))) 42 11) - 48 = nI x by rw [e45]; exact fun g => hv2 (rq_m48.mp g)), if_neg (show ¬ (y + 1 < n ∧ rq_at k i A0 (y + 1) = 48 + nI x) from fun g => hv2 g.2)]
      · rw [if_neg (fun g => hy1 (el.mp g)), if_neg (show ¬ (y + 1 < n ∧ rq_at k i A0 (y + 1) = 48 + nI x) from fun g => hy1 g.1)]
    rw [rc]
    by_cases hs : y + 1 < n ∧ rq_at k i A0 (y + 1) = 48 + nI x
    · rw [if_pos hs, if_pos hs]
      exact Or.inl ⟨by decide, rfl⟩
    · rw [if_neg hs, if_neg hs]
      rcases rq_dg (t := 0) (E := m - 1) hK h2 (by omega) (by omega) with ⟨u, _, hu, hy2, hv2, f5, f6⟩ | ⟨f5, f6⟩
      · have f6' : s_X6_digit (nI (60 * k + i + n)) 0 (nI (m - 1)) (mj_upI B 42 11 (nI (60 * k + i + (y + 1)))) = (nI u, mj_upI (mj_upI B 42 11 (nI (60 * k + i + (y + 1)))) 42 11 (nI (60 * k + i + (y + 1 + 1)))) := f6
        have hxu : x ≠ u := fun g => hs ⟨hy2, by rw [hv2, g]⟩
        have h3 := rq_RB_y h2 hy2
        have hS3 := rq_SC_set hd (rq_SC_y (v := nI (y + 1 + 1)) (w := nI (60 * k + i + (y + 1 + 1))) hd hS2) (show x < m by omega) (show u < m by omega) hxu
        rw [f6']
        dsimp only
        rw [if_neg (rq_m9 (show u < 1000 by omega)), ← rq_set1]
        refine Or.inr (Or.inr ⟨rfl, u, by omega, _, _, f5, ⟨y + 1 + 1, ?_⟩, rfl, hS3, ?_⟩)
        · rw [rq_set1, rq_set1]
          exact rq_RB_b (rq_RB_b (rq_RB_a hK (rq_RB_a hK h3 (by omega)) (by omega)) (by omega)) (by omega)
        · rw [rq_set1, mj_upI_ne (by decide), mj_upI_ne (by decide), mj_upI_eq, if_neg (by decide)]; exact h13
      · have f6' : s_X6_digit (nI (60 * k + i + n)) 0 (nI (m - 1)) (mj_upI B 42 11 (nI (60 * k + i + (y + 1)))) = (-9, mj_upI B 42 11 (nI (60 * k + i + (y + 1)))) := f6
        rw [f6']
        dsimp only
        rw [if_pos rfl]
        exact Or.inr (Or.inl ⟨rfl, f5, rfl⟩)
  · refine Or.inl ⟨e5, ?_⟩
    have e6' : s_X6_digit (nI (60 * k + i + n)) 0 (nI (m - 1)) B = (-9, B) := e6
    unfold s_X6_readCorner
    rw [e2, e6']
    dsimp only
    rw [if_pos rfl]
/-- a stage: both fail, or both go on -/
def rq_Sg (dd k i n m : Nat) (A0 B0 : mj_I) (h13 : Int32) (C : mj_I → Int32 × mj_I) (P : Int32 × mj_I) (Q : Int32 × mj_I) : Prop := (P.1 = 0 ∧ Q.1 = 0 ∧ ∃ y, rq_RB dd k i n A0 B0 y P.2 Q.2) ∨ (P.1 = 1 ∧ ∃ B2 : mj_I, Q = C B2 ∧ (∃ y, rq_RB dd k i n A0 B0 y P.2 B2) ∧ rq_SC dd m P.2 B2 ∧ B2 42 13 = h13)
theorem rq_cos (hK : rq_RC dd k i n A0 B0) {m : Nat} (hm : 2 ≤ m) (h13 : Int32) : ∀ (t j y : Nat) (A B : mj_I), rq_RB dd k i n A0 B0 y A B → rq_SC dd m A B → B 42 13 = h13 → rq_Sg dd k i n m A0 B0 h13 (fun I => s_X6_rC (nI (60 * k + i + n)) 3 0 I) (s_X2_co dd (34 + 2 * k + 1) t j A) (s_X6_rB (nI (60 * k + i + n)) t j B) := by
  have hd := hK.1
  intro t
  induction t with
  | zero => intro j y A B h hS h3; exact Or.inr ⟨rfl, B, rfl, ⟨y, h⟩, hS, h3⟩
  | succ t ih =>
    intro j y A B h hS h3
    rw [s_X2_co, s_X6_rB]
    rcases rq_tk hK h 45 with ⟨⟨hy, _⟩, e5, e6⟩ | ⟨_, e5, e6⟩
    · rw [e5, e6]
      dsimp only
      rw [if_neg (show ¬ (1 : Int32) = 0 by decide), if_neg (show ¬ (1 : Int32) = 0 by decide)]
      have h1 := rq_RB_y h hy
      have hS1 : rq_SC dd m (mj_upI A 18 3 (nI (y + 1))) (mj_upI B 42 11 (nI (60 * k + i + (y + 1)))) := rq_SC_y hd hS
      have h31 : mj_upI B 42 11 (nI (60 * k + i + (y + 1))) 42 13 = h13 := by rw [mj_upI_eq, if_neg (by decide)]; exact h3
      rcases rq_crn hK h1 hS1 hm with ⟨c1, c2⟩ | ⟨x, hx, A2, B2, c1, y2, hR2, hS2, f13, ⟨c2, c3⟩ | ⟨c2, c3, c4⟩ | ⟨c2, u, hu, A3, B3, c3, ⟨y3, hR3⟩, c4, hS3, g13⟩⟩
      · rw [c1, c2]
        dsimp only
        rw [if_pos (show (-1 : Int32) < 0 by decide), if_pos rfl]
        exact Or.inl ⟨rfl, rfl, y + 1, h1⟩
      · rw [c1, c3]
        dsimp only
        rw [if_neg (rq_neg1 (show x < 1000 by have := hS1.1.1; omega)), if_neg c2, if_pos rfl]
        exact Or.inl ⟨rfl, rfl, y2, hR2⟩
      · rw [c1, c4]
        dsimp only
        rw [if_neg (rq_neg1 (show x < 1000 by have := hS1.1.1; omega)), if_pos c2, c3]
        dsimp only
        rw [if_pos (show (-1 : Int32) < 0 by decide), if_pos rfl]
        exact Or.inl ⟨rfl, rfl, y2, hR2⟩
      · rw [c1, c4]
        dsimp only
        rw [if_neg (rq_neg1 (show x < 1000 by have := hS1.1.1; omega)), if_pos c2, c3]
        dsimp only
        rw [if_neg (rq_neg1 (show u < 1000 by have := hS1.1.1; omega)), if_neg (show ¬ (1 : Int32) = 0 by decide)]
        exact ih (j + 1) y3 _ _ hR3 hS3 (g13.trans h31)
    · rw [e5, e6]
      dsimp only
      rw [if_pos rfl, if_pos rfl]
      exact Or.inr ⟨rfl, B, rfl, ⟨y, h⟩, hS, h3⟩
theorem rq_sts (hK : rq_RC dd k i n A0 B0) {m : Nat} (hm : 2 ≤ m ∧ m ≤ 6) (h13 : Int32) : ∀ (t j y : Nat) (A B : mj_I), t + j = 6 → rq_RB dd k i n A0 B0 y A B → A dd 0 = nI m → B 42 12 = nI m → (∀ u, u < m → A (dd + 2) (nI u) = 0) → (∀ u, u < j → B 51 (nI u) = 0 ∧ B 50 (nI u) = A (dd + 1) (nI u) ∧ mj_in (A (dd + 1) (nI u)) 4) → B 42 13 = h13 → rq_Sg dd k i n m A0 B0 h13 (fun I => s_X6_rB (nI (60 * k + i + n)) 9 0 I) (s_X2_rs (34 + 2 * k + 1) (dd + 1) 6 (nI m) t j A) (s_X6_rA (nI (60 * k + i + n)) t j B) := by
  have hd := hK.1
  have fin : ∀ (y : Nat) (A B : mj_I), rq_RB dd k i n A0 B0 y A B → A dd 0 = nI m → B 42 12 = nI m → (∀ u, u < m → A (dd + 2) (nI u) = 0) → (∀ u, u < m → B 51 (nI u) = 0 ∧ B 50 (nI u) = A (dd + 1) (nI u) ∧ mj_in (A (dd + 1) (nI u)) 4) → B 42 13 = h13 → rq_Sg dd k i n m A0 B0 h13 (fun I => s_X6_rB (nI (60 * k + i + n)) 9 0 I) (1, A) (s_X6_rB (nI (60 * k + i + n)) 9 0 B) := by
    intro y A B h hA hB hz hu h3
    refine Or.inr ⟨rfl, B, rfl, ⟨y, h⟩, ⟨⟨hm.2, hA, hB⟩, fun s hs => (hu s hs).2, fun s hs => ?_, fun _ => 0, fun a ha => ⟨?_, Nat.two_pow_pos m⟩, fun _ _ _ _ => ?_, fun _ _ => Nat.zero_testBit _⟩, h3⟩
    · rw [(hu s hs).1]; exact (hz s hs).symm
    · exact hz a ha
    · rw [Nat.zero_testBit, Nat.zero_testBit]
  intro t
  induction t with
  | zero =>
    intro j y A B hj h hA hB hz hu h3
    exact fin y A B h hA hB hz (fun u hu2 => hu u (by omega)) h3
  | succ t ih =>
    intro j y A B hj h hA hB hz hu h3
    rw [s_X2_rs, s_X6_rA, hB]
    by_cases hjm : j < m
    · rw [if_pos (nI_lt hjm (by omega)), if_pos (nI_lt hjm (by omega))]
      have h1 : rq_RB dd k i n A0 B0 y A (mj_upI B 51 (nI j) 0) := rq_RB_b h (by omega)
      rcases rq_dg (t := 0) (E := 3) hK h1 (by omega) (by omega) with ⟨d, _, hd3, hy, hv, e5, e6⟩ | ⟨e5, e6⟩
      · have e5' : s_X2_takeDigit (34 + 2 * k + 1) 0 3 A = (nI d, mj_upI A 18 3 (nI (y + 1))) := e5
        have e6' : s_X6_digit (nI (60 * k + i + n)) 0 3 (mj_upI B 51 (nI j) 0) = (nI d, mj_upI (mj_upI B 51 (nI j) 0) 42 11 (nI (60 * k + i + (y + 1)))) := e6
        rw [e5', e6']
        dsimp only
        rw [if_neg (rq_neg1 (show d < 1000 by omega)), mj_upI_eq, if_pos rfl, if_neg (rq_m9 (show d < 1000 by omega))]
        refine ih (j + 1) (y + 1) _ _ (by omega) (rq_RB_b (rq_RB_a hK (rq_RB_y h1 hy) (by omega)) (by omega)) ?_ ?_ (fun u hu2 => ?_) (fun u hu2 => ?_) ?_
        · rw [mj_upI_ne (by omega), mj_upI_ne (by omega)]; exact hA
        · rw [mj_upI_ne (by decide), mj_upI_eq, if_neg (by decide), mj_upI_ne (by decide)]; exact hB
        · rw [mj_upI_ne (by omega), mj_upI_ne (by omega)]; exact hz u hu2
        · rw [mj_upI_ne (show (51 : Nat) ≠ 50 by decide), mj_upI_ne (show (51 : Nat) ≠ 42 by decide), mj_upI_eq, mj_upI_eq, mj_upI_eq]
          by_cases huj : u = j
          · subst huj
            rw [if_pos rfl, if_pos rfl, if_pos rfl]; exact ⟨rfl, rfl, rq_in4 hd3⟩
          · have nu : ¬ nI u = nI j := fun hh => huj ((rq_nIe (by omega) (by omega)).mp hh)
            rw [if_neg nu, if_neg nu, if_neg nu, mj_upI_ne (by decide), mj_upI_ne (by decide), mj_upI_ne (by omega)]
            exact hu u (by omega)
        · rw [mj_upI_ne (by decide), mj_upI_eq, if_neg (by decide), mj_upI_ne (by decide)]; exact h3
      · have e5' : s_X2_takeDigit (34 + 2 * k + 1) 0 3 A = (-1, A) := e5
        have e6' : s_X6_digit (nI (60 * k + i + n)) 0 3 (mj_upI B 51 (nI j) 0) = (-9, mj_upI B 51 (nI j) 0) := e6
        rw [e5', e6']
        dsimp only
        rw [if_pos (show (-1 : Int32) < 0 by decide), mj_upI_eq, if_pos rfl, if_pos rfl]
        exact Or.inl ⟨rfl, rfl, y, rq_RB_b h1 (by omega)⟩
    · rw [if_neg (nI_nlt (by omega) (by omega)), if_neg (nI_nlt (by omega) (by omega))]
      exact fin y A B h hA hB hz (fun u hu2 => hu u (by omega)) h3
theorem rq_stz {m rr : Nat} (hm : m ≤ 6) : ∀ (t j : Nat) (A : mj_I), t + j = 6 → (∀ u, u < j → A (dd + 2) (nI u) = 0) → ∃ A' : mj_I, s_X2_st dd rr (nI m) t j A = s_X2_rs rr (dd + 1) 6 (nI m) 6 0 A' ∧ (∀ z, z ≠ dd + 2 → A' z = A z) ∧ ∀ u, u < m → A' (dd + 2) (nI u) = 0 := by
  intro t
  induction t with
  | zero => intro j A hj hz; exact ⟨A, rfl, fun _ _ => rfl, fun u hu => hz u (by omega)⟩
  | succ t ih =>
    intro j A hj hz
    rw [s_X2_st]
    by_cases hjm : j < m
    · rw [if_pos (nI_lt hjm (by omega))]
      obtain ⟨A', a1, a2, a3⟩ := ih (j + 1) (mj_upI A (dd + 2) (nI j) 0) (by omega) (fun u hu => by
        rw [mj_upI_eq]
        by_cases huj : u = j
        · rw [if_pos (by rw [huj])]
        · rw [if_neg (fun hh => huj ((rq_nIe (by omega) (by omega)).mp hh))]; exact hz u (by omega))
      exact ⟨A', a1, fun z hz2 => by rw [a2 z hz2, mj_upI_ne hz2], a3⟩
    · rw [if_neg (nI_nlt (by omega) (by omega))]
      exact ⟨A, rfl, fun _ _ => rfl, fun u hu => hz u (by omega)⟩
end VQ
