/-! the reader: the class's and the reference's -/
theorem rq_CO_set {m a b k : Nat} {I : mj_I} (hm : m ≤ 6) (h : mj_CO m (I k)) (ha : a < m) (hb : b < m) (hab : a ≠ b) : mj_CO m (sp_setc I k (nI a) (nI b) 1 k) := by
  obtain ⟨q, hq, hsym, hirr⟩ := h
  have setA := fun t ht => rq_set2 (v := 1) hm hq ha hb hab (I := I) (k := k) (fun s _ => rfl) t ht
  rw [rq_x5set]
  refine ⟨fun t => if t = b then rq_sb (q b) a 1 else if t = a then rq_sb (q a) b 1 else q t, fun t ht => ⟨setA t ht, ?_⟩, ?_, ?_⟩
  · show (if t = b then rq_sb (q b) a 1 else if t = a then rq_sb (q a) b 1 else q t) < 2 ^ m
    split
    · exact rq_sb_lt ha (hq b hb).2
    · split
      · exact rq_sb_lt hb (hq a ha).2
      · exact (hq t ht).2
  all_goals
    have hbit : ∀ s, s < m → ∀ t, t < m → (if s = b then rq_sb (q b) a 1 else if s = a then rq_sb (q a) b 1 else q s).testBit t = if (s = a ∧ t = b) ∨ (s = b ∧ t = a) then true else (q s).testBit t := by
      intro s hs t ht
      by_cases hsb : s = b
      · rw [if_pos hsb, rq_sb_t (by omega) (by omega)]
        by_cases hta : t = a
        · rw [if_pos hta, if_pos (by omega)]; decide
        · rw [if_neg hta, if_neg (by omega), hsb]
      · rw [if_neg hsb]
        by_cases hsa : s = a
        · rw [if_pos hsa, rq_sb_t (by omega) (by omega)]
          by_cases htb : t = b
          · rw [if_pos htb, if_pos (by omega)]; decide
          · rw [if_neg htb, if_neg (by omega), hsa]
        · rw [if_neg hsa, if_neg (by omega)]
  · intro s hs t ht
    show (if s = b then rq_sb (q b) a 1 else if s = a then rq_sb (q a) b 1 else q s).testBit t = (if t = b then rq_sb (q b) a 1 else if t = a then rq_sb (q a) b 1 else q t).testBit s
    rw [hbit s hs t ht, hbit t ht s hs, hsym s hs t ht]
    by_cases g : (s = a ∧ t = b) ∨ (s = b ∧ t = a)
    · rw [if_pos g, if_pos (by omega)]
    · rw [if_neg g, if_neg (by omega)]
  · intro s hs
    show (if s = b then rq_sb (q b) a 1 else if s = a then rq_sb (q a) b 1 else q s).testBit s = false
    rw [hbit s hs s hs, if_neg (by omega)]
    exact hirr s hs
/-- where both readers stand -/
def rq_RB (dd k i n : Nat) (A0 B0 : mj_I) (y : Nat) (A B : mj_I) : Prop := y ≤ n ∧ A 18 1 = nI i ∧ A 18 2 = nI n ∧ A 18 3 = nI y ∧ B 42 11 = nI (60 * k + i + y) ∧ (∀ x, x ≠ 18 → (x < dd ∨ dd + 7 < x) → A x = A0 x) ∧ (∀ x, x ≠ 42 → (x < 50 ∨ 53 < x) → B x = B0 x) ∧ ∀ u : Int32, u ≠ 11 → u ≠ 12 → u ≠ 13 → B 42 u = B0 42 u
/-- what stays so while they read -/
def rq_RC (dd k i n : Nat) (A0 B0 : mj_I) : Prop := (dd = 2 ∨ dd = 10) ∧ k < 4 ∧ i + n ≤ 60 ∧ ∀ j, j < 60 → B0 45 (nI (60 * k + j)) = A0 (34 + 2 * k + 1) (nI j)
section VB
variable {dd k i n : Nat} {A0 B0 : mj_I}
theorem rq_RB_a {y x : Nat} {A B : mj_I} {z v : Int32} (hK : rq_RC dd k i n A0 B0) (h : rq_RB dd k i n A0 B0 y A B) (hx : dd ≤ x ∧ x ≤ dd + 7) : rq_RB dd k i n A0 B0 y (mj_upI A x z v) B := by
  have := hK.1
  obtain ⟨a, h1, h2, h3, h4, h5, h6, h7⟩ := h
  refine ⟨a, ?_, ?_, ?_, h4, fun w hw hw2 => ?_, h6, h7⟩
  · rw [mj_upI_ne (by omega)]; exact h1
  · rw [mj_upI_ne (by omega)]; exact h2
  · rw [mj_upI_ne (by omega)]; exact h3
  · rw [mj_upI_ne (by omega)]; exact h5 w hw hw2
theorem rq_RB_b {y x : Nat} {A B : mj_I} {z v : Int32} (h : rq_RB dd k i n A0 B0 y A B) (hx : 50 ≤ x ∧ x ≤ 53) : rq_RB dd k i n A0 B0 y A (mj_upI B x z v) := by
  obtain ⟨a, h1, h2, h3, h4, h5, h6, h7⟩ := h
  refine ⟨a, h1, h2, h3, ?_, h5, fun w hw hw2 => ?_, fun u a1 a2 a3 => ?_⟩
  · rw [mj_upI_ne (by omega)]; exact h4
  · rw [mj_upI_ne (by omega)]; exact h6 w hw hw2
  · rw [mj_upI_ne (by omega)]; exact h7 u a1 a2 a3
theorem rq_RB_42 {y : Nat} {A B : mj_I} {z v : Int32} (h : rq_RB dd k i n A0 B0 y A B) (hz : z = 12 ∨ z = 13) : rq_RB dd k i n A0 B0 y A (mj_upI B 42 z v) := by
  obtain ⟨a, h1, h2, h3, h4, h5, h6, h7⟩ := h
  refine ⟨a, h1, h2, h3, ?_, h5, fun w hw hw2 => ?_, fun u a1 a2 a3 => ?_⟩
  · rw [mj_upI_eq, if_neg (by rcases hz with rfl | rfl <;> decide)]; exact h4
  · rw [mj_upI_ne (by omega)]; exact h6 w hw hw2
  · rw [mj_upI_eq, if_neg (by rcases hz with rfl | rfl <;> assumption)]; exact h7 u a1 a2 a3
theorem rq_RB_y {y : Nat} {A B : mj_I} (h : rq_RB dd k i n A0 B0 y A B) (hy : y < n) : rq_RB dd k i n A0 B0 (y + 1) (mj_upI A 18 3 (nI (y + 1))) (mj_upI B 42 11 (nI (60 * k + i + (y + 1)))) := by
  obtain ⟨a, h1, h2, h3, h4, h5, h6, h7⟩ := h
  refine ⟨by omega, ?_, ?_, ?_, ?_, fun w hw hw2 => ?_, fun w hw hw2 => ?_, fun u a1 a2 a3 => ?_⟩
  · rw [mj_upI_eq, if_neg (by decide)]; exact h1
  · rw [mj_upI_eq, if_neg (by decide)]; exact h2
  · rw [mj_upI_eq, if_pos rfl]
  · rw [mj_upI_eq, if_pos rfl]
  · rw [mj_upI_ne hw]; exact h5 w hw hw2
  · rw [mj_upI_ne hw]; exact h6 w hw hw2
  · rw [mj_upI_eq, if_neg a1]; exact h7 u a1 a2 a3
/-- the code behind a place -/
def rq_at (k i : Nat) (A0 : mj_I) (y : Nat) : Int32 := A0 (34 + 2 * k + 1) (nI (i + y))
theorem rq_sees {y : Nat} {A B : mj_I} (hK : rq_RC dd k i n A0 B0) (h : rq_RB dd k i n A0 B0 y A B) (v : Int32) : s_X2_sees (34 + 2 * k + 1) v A = if y < n ∧ rq_at k i A0 y = v then 1 else 0 := by
  obtain ⟨hd, hk, hin, hc⟩ := hK
  obtain ⟨a, h1, h2, h3, h4, h5, h6, h7⟩ := h
  unfold s_X2_sees rq_at
  rw [h1, h2, h3]
  by_cases hy : y < n
  · rw [if_pos (nI_lt hy (by omega)), nI_add, if_neg (show ¬ nI (i + y) < 0 from nI_nlt (b := 0) (by omega) (by omega)), if_pos (show nI (i + y) < 60 from nI_lt (b := 60) (by omega) (by omega)), h5 _ (by omega) (by omega)]
    by_cases hv : A0 (34 + 2 * k + 1) (nI (i + y)) = v
    · rw [if_pos hv, if_pos ⟨hy, hv⟩]
    · rw [if_neg hv, if_neg (fun q => hv q.2)]
  · rw [if_neg (nI_nlt (by omega) (by omega)), if_neg (fun q => hy q.1)]
theorem rq_B45 {y : Nat} {A B : mj_I} (hK : rq_RC dd k i n A0 B0) (h : rq_RB dd k i n A0 B0 y A B) (hy : y < n) : B 45 (B 42 11) = rq_at k i A0 y := by
  obtain ⟨hd, hk, hin, hc⟩ := hK
  obtain ⟨a, h1, h2, h3, h4, h5, h6, h7⟩ := h
  unfold rq_at
  rw [h4, h6 45 (by decide) (by decide), Nat.add_assoc, hc (i + y) (by omega)]
theorem rq_lt42 {y : Nat} {A B : mj_I} (hK : rq_RC dd k i n A0 B0) (h : rq_RB dd k i n A0 B0 y A B) : (B 42 11 < nI (60 * k + i + n)) ↔ y < n := by
  obtain ⟨hd, hk, hin, hc⟩ := hK
  obtain ⟨a, h1, h2, h3, h4, h5, h6, h7⟩ := h
  rw [h4, nI_ltI (by omega) (by omega)]
  omega
theorem rq_tk {y : Nat} {A B : mj_I} (hK : rq_RC dd k i n A0 B0) (h : rq_RB dd k i n A0 B0 y A B) (v : Int32) : ((y < n ∧ rq_at k i A0 y = v) ∧ s_X2_takes (34 + 2 * k + 1) v A = (1, mj_upI A 18 3 (nI (y + 1))) ∧ s_X6_isSign (nI (60 * k + i + n)) v B = (1, mj_upI B 42 11 (nI (60 * k + i + (y + 1))))) ∨ (¬ (y < n ∧ rq_at k i A0 y = v) ∧ s_X2_takes (34 + 2 * k + 1) v A = (0, A) ∧ s_X6_isSign (nI (60 * k + i + n)) v B = (0, B)) := by
  have e := rq_sees hK h v
  have el := rq_lt42 hK h
  unfold s_X2_takes s_X6_isSign
  rw [e]
  by_cases q : y < n ∧ rq_at k i A0 y = v
  · rw [if_pos q, if_neg (show ¬ (1 : Int32) = 0 by decide), if_pos (el.mpr q.1), rq_B45 hK h q.1, if_pos q.2, h.2.2.2.1, h.2.2.2.2.1]
    refine Or.inl ⟨q, ?_, ?_⟩
    · rw [show nI y + 1 = nI (y + 1) from nI_1 y]
    · rw [show nI (60 * k + i + y) + 1 = nI (60 * k + i + (y + 1)) from nI_1 _]
  · rw [if_neg q, if_pos rfl]
    refine Or.inr ⟨q, rfl, ?_⟩
    by_cases hy : y < n
    · rw [if_pos (el.mpr hy), rq_B45 hK h hy, if_neg (fun g => q ⟨hy, g⟩)]
    · rw [if_neg (fun g => hy (el.mp g))]
theorem rq_48 {x : Nat} (hx : x < 1000) : (48 + nI x : Int32) = nI (48 + x) := by
  rw [show (48 : Int32) = nI 48 from rfl, nI_add]
theorem rq_td0 {y : Nat} {A B : mj_I} (hK : rq_RC dd k i n A0 B0) (h : rq_RB dd k i n A0 B0 y A B) (g : Int32) {E : Nat} (hE : E ≤ 6) : ∀ (t j : Nat), t + j = 7 → (∀ d, j ≤ d → d ≤ E → ¬ (y < n ∧ rq_at k i A0 y = 48 + nI d)) → s_X2_td (34 + 2 * k + 1) g (nI E) t j A = (-1, A) := by
  intro t
  induction t with
  | zero => intros; rfl
  | succ t ih =>
    intro j hj hno
    rw [s_X2_td]
    by_cases hEj : nI E < nI j
    · rw [if_pos hEj]
    · have : ¬ E < j := fun q => hEj ((nI_ltI (by omega) (by omega)).mpr q)
      rw [if_neg hEj]
      rcases rq_tk hK h (48 + nI j) with ⟨q, _, _⟩ | ⟨_, e, _⟩
      · exact absurd q (hno j (by omega) (by omega))
      · rw [e, if_pos rfl]
        exact ih (j + 1) (by omega) (fun d h1 h2 => hno d (by omega) h2)
theorem rq_td1 {y : Nat} {A B : mj_I} (hK : rq_RC dd k i n A0 B0) (h : rq_RB dd k i n A0 B0 y A B) (g : Int32) {E d : Nat} (hE : E ≤ 6) (hdE : d ≤ E) (hy : y < n) (hv : rq_at k i A0 y = 48 + nI d) : ∀ (t j : Nat), t + j = 7 → j ≤ d → s_X2_td (34 + 2 * k + 1) g (nI E) t j A = (nI d, mj_upI A 18 3 (nI (y + 1))) := by
  intro t
  induction t with
  | zero => intro j h1 h2; omega
  | succ t ih =>
    intro j hj hjd
    rw [s_X2_td, if_neg (nI_nlt (by omega) (by omega))]
    rcases rq_tk hK h (48 + nI j) with ⟨⟨_, q⟩, e, _⟩ | ⟨q, e, _⟩
    · rw [e, if_neg (show ¬ (1 : Int32) = 0 by decide)]
      rw [hv, rq_48 (by omega), rq_48 (by omega), rq_nIe (by omega) (by omega)] at q
      have : j = d := by omega
      rw [this]
    · rw [e, if_pos rfl]
      have : j ≠ d := fun g => q ⟨hy, by rw [hv, g]⟩
      exact ih (j + 1) (by omega) (by omega)
theorem rq_dg {y t E : Nat} {A B : mj_I} (hK : rq_RC dd k i n A0 B0) (h : rq_RB dd k i n A0 B0 y A B) (hE : E ≤ 6) (ht : t ≤ 7) : (∃ d, t ≤ d ∧ d ≤ E ∧ y < n ∧ rq_at k i A0 y = 48 + nI d ∧ s_X2_takeDigit (34 + 2 * k + 1) t (nI E) A = (nI d, mj_upI A 18 3 (nI (y + 1))) ∧ s_X6_digit (nI (60 * k + i + n)) (nI t) (nI E) B = (nI d, mj_upI B 42 11 (nI (60 * k + i + (y + 1))))) ∨ (s_X2_takeDigit (34 + 2 * k + 1) t (nI E) A = (-1, A) ∧ s_X6_digit (nI (60 * k + i + n)) (nI t) (nI E) B = (-9, B)) := by
  have el := rq_lt42 hK h
  by_cases hex : ∃ d, t ≤ d ∧ d ≤ E ∧ y < n ∧ rq_at k i A0 y = 48 + nI d
  · obtain ⟨d, h1, h2, hy, hv⟩ := hex
    refine Or.inl ⟨d, h1, h2, hy, hv, ?_, ?_⟩
    · unfold s_X2_takeDigit
      rw [rq_td1 hK h (nI t) hE h2 hy hv (7 - t) t (by omega) h1]
    · unfold s_X6_digit s_X6_within
      have e1 : B 42 11 + 1 - 1 = B 42 11 := Int32.add_sub_cancel _ _
      rw [if_pos (el.mpr hy), e1, rq_B45 hK h hy, hv, rq_48 (by omega), rq_48 (by omega), rq_48 (by omega), if_neg (nI_nlt (by omega) (by omega)), if_neg (nI_nlt (by omega) (by omega)), if_neg (show ¬ (1 : Int32) = 0 by decide), ← rq_48 (by omega), h.2.2.2.2.1, show nI (60 * k + i + y) + 1 = nI (60 * k + i + (y + 1)) from nI_1 _, show (48 + nI d : Int32) - 48 = nI d by rw [Int32.add_comm]; exact Int32.add_sub_cancel _ _]
  · refine Or.inr ⟨?_, ?_⟩
    · unfold s_X2_takeDigit
      rw [rq_td0 hK h (nI t) hE (7 - t) t (by omega) (fun d h1 h2 q => hex ⟨d, h1, h2, q.1, q.2⟩)]
    · unfold s_X6_digit s_X6_within
      by_cases hy : y < n
      · rw [if_pos (el.mpr hy), rq_B45 hK h hy, rq_48 (by omega), rq_48 (by omega)]
        by_cases q1 : rq_at k i A0 y < nI (48 + t)
        · rw [if_pos q1, if_pos rfl]
        · rw [if_neg q1]
          by_cases q2 : nI (48 + E) < rq_at k i A0 y
          · rw [if_pos q2, if_pos rfl]
          · exfalso
            have a1 := mj_iN q1
            have a2 := mj_iN q2
            rw [nI_toInt (by omega)] at a1 a2
            refine hex ⟨(rq_at k i A0 y).toInt.toNat - 48, by omega, by omega, hy, ?_⟩
            rw [rq_48 (by omega)]
            refine mj_ofI ?_
            rw [nI_toInt (by omega)]
            omega
      · rw [if_neg (fun g => hy (el.mp g))]
end VB
