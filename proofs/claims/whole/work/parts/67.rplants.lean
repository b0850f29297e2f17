/-! the reader's plants -/
/-- streets and corners read -/
def rq_SC (dd m : Nat) (A B : mj_I) : Prop := (m ≤ 6 ∧ A dd 0 = nI m ∧ B 42 12 = nI m) ∧ (∀ s, s < m → B 50 (nI s) = A (dd + 1) (nI s) ∧ mj_in (A (dd + 1) (nI s)) 4) ∧ (∀ s, s < m → B 51 (nI s) = A (dd + 2) (nI s)) ∧ mj_CO m (A (dd + 2))
theorem rq_SC_eq {dd m : Nat} {A A' B B' : mj_I} (h0 : A' dd 0 = A dd 0) (h1 : A' (dd + 1) = A (dd + 1)) (h2 : A' (dd + 2) = A (dd + 2)) (h3 : B' 42 12 = B 42 12) (h4 : B' 50 = B 50) (h5 : B' 51 = B 51) (h : rq_SC dd m A B) : rq_SC dd m A' B' := by
  unfold rq_SC at h ⊢
  rw [h0, h1, h2, h3, h4, h5]; exact h
/-- plants read -/
def rq_PK (dd p : Nat) (A B : mj_I) : Prop := ∀ q, q < p → B 52 (nI q) = A (dd + 3) (nI q) ∧ mj_in (A (dd + 3) (nI q)) 3 ∧ ∀ t, t < 3 → B 53 (nI (3 * q + t)) = A (dd + 5 + q) (nI t) ∧ mj_in (A (dd + 5 + q) (nI t)) 4
theorem rq_in4 {d : Nat} (h : d ≤ 3) : mj_in (nI d) 4 := mj_in_nI (by omega) (by omega)
theorem rq_neg1 {d : Nat} (h : d < 1000) : ¬ nI d < 0 := nI_nlt (b := 0) (by omega) (by omega)
section VP
variable {dd k i n : Nat} {A0 B0 : mj_I}
theorem rq_rsw (hK : rq_RC dd k i n A0 B0) {q x : Nat} (hq : q < 3) (hx : x = dd + 5 + q) (f : Int32) (A1 B1 : mj_I) : ∀ (t j y : Nat) (A B : mj_I), t + j = 3 → rq_RB dd k i n A0 B0 y A B → (∀ z, z ≠ 18 → z ≠ x → A z = A1 z) → (∀ z, z ≠ 42 → z ≠ 53 → B z = B1 z) → (∀ z, z ≠ 11 → B 42 z = B1 42 z) → (∀ w : Int32, (∀ u, u < 3 → w ≠ nI (3 * q + u)) → B 53 w = B1 53 w) → (∀ u, u < j → B 53 (nI (3 * q + u)) = A x (nI u) ∧ mj_in (A x (nI u)) 4) →
    ((s_X2_rs (34 + 2 * k + 1) x 3 3 t j A).1 = 0 ∧ (s_X6_rw (nI (60 * k + i + n)) (nI q) f t j B).1 = 0 ∧ ∃ y', rq_RB dd k i n A0 B0 y' (s_X2_rs (34 + 2 * k + 1) x 3 3 t j A).2 (s_X6_rw (nI (60 * k + i + n)) (nI q) f t j B).2) ∨
    ((s_X2_rs (34 + 2 * k + 1) x 3 3 t j A).1 = 1 ∧ (s_X6_rw (nI (60 * k + i + n)) (nI q) f t j B).1 = 1 ∧ (∃ y', rq_RB dd k i n A0 B0 y' (s_X2_rs (34 + 2 * k + 1) x 3 3 t j A).2 (s_X6_rw (nI (60 * k + i + n)) (nI q) f t j B).2) ∧ (∀ z, z ≠ 18 → z ≠ x → (s_X2_rs (34 + 2 * k + 1) x 3 3 t j A).2 z = A1 z) ∧ (∀ z, z ≠ 42 → z ≠ 53 → (s_X6_rw (nI (60 * k + i + n)) (nI q) f t j B).2 z = B1 z) ∧ ((s_X6_rw (nI (60 * k + i + n)) (nI q) f t j B).2 42 12 = B1 42 12 ∧ (s_X6_rw (nI (60 * k + i + n)) (nI q) f t j B).2 42 13 = B1 42 13 + 1) ∧ (∀ w : Int32, (∀ u, u < 3 → w ≠ nI (3 * q + u)) → (s_X6_rw (nI (60 * k + i + n)) (nI q) f t j B).2 53 w = B1 53 w) ∧ ∀ u, u < 3 → (s_X6_rw (nI (60 * k + i + n)) (nI q) f t j B).2 53 (nI (3 * q + u)) = (s_X2_rs (34 + 2 * k + 1) x 3 3 t j A).2 x (nI u) ∧ mj_in ((s_X2_rs (34 + 2 * k + 1) x 3 3 t j A).2 x (nI u)) 4) := by
  have hdd := hK.1
  intro t
  induction t with
  | zero =>
    intro j y A B hj h hA hB hB2 hB3 hu
    have : j = 3 := by omega
    subst this
    rw [s_X2_rs, s_X6_rw]
    dsimp only
    refine Or.inr ⟨rfl, rfl, ⟨y, rq_RB_42 h (Or.inr rfl)⟩, hA, fun z hz hz2 => ?_, ⟨?_, ?_⟩, fun w hw => ?_, fun u hu2 => ?_⟩
    · rw [mj_upI_ne hz]; exact hB z hz hz2
    · rw [mj_upI_eq, if_neg (by decide)]; exact hB2 12 (by decide)
    · rw [mj_upI_eq, if_pos rfl, hB2 13 (by decide)]
    · rw [mj_upI_ne (by decide)]; exact hB3 w hw
    · rw [mj_upI_ne (by decide)]; exact hu u hu2
  | succ t ih =>
    intro j y A B hj h hA hB hB2 hB3 hu
    have e3 : (3 : Int32) * nI q + nI j = nI (3 * q + j) := rq_x3 ⟨q, hq⟩ ⟨j, by omega⟩
    rw [s_X2_rs, s_X6_rw, if_pos (show nI j < 3 from nI_lt (b := 3) (by omega) (by omega)), e3]
    rcases rq_dg (t := 0) (E := 3) hK h (by omega) (by omega) with ⟨d, _, hd, hy, hv, e5, e6⟩ | ⟨e5, e6⟩
    · have e5' : s_X2_takeDigit (34 + 2 * k + 1) 0 3 A = (nI d, mj_upI A 18 3 (nI (y + 1))) := e5
      have e6' : s_X6_digit (nI (60 * k + i + n)) 0 3 B = (nI d, mj_upI B 42 11 (nI (60 * k + i + (y + 1)))) := e6
      rw [e5', e6']
      dsimp only
      rw [if_neg (show ¬ nI d < 0 from rq_neg1 (by omega)), mj_upI_eq, if_pos rfl, if_neg (rq_m9 (by omega))]
      refine ih (j + 1) (y + 1) _ _ (by omega) (rq_RB_b (rq_RB_a hK (rq_RB_y h hy) (by omega)) (by omega)) (fun z hz hz2 => ?_) (fun z hz hz2 => ?_) (fun z hz => ?_) (fun w hw => ?_) (fun u hu2 => ?_)
      · rw [mj_upI_ne hz2, mj_upI_ne hz]; exact hA z hz hz2
      · rw [mj_upI_ne hz2, mj_upI_ne hz]; exact hB z hz hz2
      · rw [mj_upI_ne (by decide), mj_upI_eq, if_neg hz]; exact hB2 z hz
      · rw [mj_upI_eq, if_neg (hw j (by omega)), mj_upI_ne (by decide)]; exact hB3 w hw
      · rw [mj_upI_eq, mj_upI_eq]
        by_cases huj : u = j
        · subst huj
          rw [if_pos rfl, if_pos rfl]; exact ⟨rfl, rq_in4 hd⟩
        · rw [if_neg (fun hh => by have := (rq_nIe (by omega) (by omega)).mp hh; omega), if_neg (fun hh => huj ((rq_nIe (by omega) (by omega)).mp hh)), mj_upI_ne (by decide), mj_upI_ne (by omega)]
          exact hu u (by omega)
    · have e5' : s_X2_takeDigit (34 + 2 * k + 1) 0 3 A = (-1, A) := e5
      have e6' : s_X6_digit (nI (60 * k + i + n)) 0 3 B = (-9, B) := e6
      rw [e5', e6']
      dsimp only
      rw [if_pos (show (-1 : Int32) < 0 by decide), mj_upI_eq, if_pos rfl, if_pos rfl]
      exact Or.inl ⟨rfl, rfl, y, rq_RB_b h (by omega)⟩
/-- one plant -/
def rq_P3 (dd k i n x q : Nat) (A0 B0 A B : mj_I) : Prop :=
    ((s_X2_takeKind (34 + 2 * k + 1) A).1 < 0 ∧ (s_X6_readPlant (nI (60 * k + i + n)) B).1 = 0 ∧ ∃ y', rq_RB dd k i n A0 B0 y' (s_X2_takeKind (34 + 2 * k + 1) A).2 (s_X6_readPlant (nI (60 * k + i + n)) B).2) ∨
    (¬ (s_X2_takeKind (34 + 2 * k + 1) A).1 < 0 ∧ (s_X2_readsSeasons (34 + 2 * k + 1) x 3 3 (s_X2_takeKind (34 + 2 * k + 1) A).2).1 = 0 ∧ (s_X6_readPlant (nI (60 * k + i + n)) B).1 = 0 ∧ ∃ y', rq_RB dd k i n A0 B0 y' (s_X2_readsSeasons (34 + 2 * k + 1) x 3 3 (s_X2_takeKind (34 + 2 * k + 1) A).2).2 (s_X6_readPlant (nI (60 * k + i + n)) B).2) ∨
    (¬ (s_X2_takeKind (34 + 2 * k + 1) A).1 < 0 ∧ (s_X2_readsSeasons (34 + 2 * k + 1) x 3 3 (s_X2_takeKind (34 + 2 * k + 1) A).2).1 = 1 ∧ (s_X6_readPlant (nI (60 * k + i + n)) B).1 = 1 ∧ mj_in (s_X2_takeKind (34 + 2 * k + 1) A).1 3 ∧ ∃ A2 B2 : mj_I, (s_X2_readsSeasons (34 + 2 * k + 1) x 3 3 (s_X2_takeKind (34 + 2 * k + 1) A).2).2 = A2 ∧ (s_X6_readPlant (nI (60 * k + i + n)) B).2 = B2 ∧ (∃ y', rq_RB dd k i n A0 B0 y' A2 B2) ∧ (∀ z, z ≠ 18 → z ≠ x → A2 z = A z) ∧ (∀ z, z ≠ 42 → z ≠ 52 → z ≠ 53 → B2 z = B z) ∧ (B2 42 12 = B 42 12 ∧ B2 42 13 = B 42 13 + 1) ∧ (B2 52 (nI q) = (s_X2_takeKind (34 + 2 * k + 1) A).1 ∧ ∀ w, w ≠ nI q → B2 52 w = B 52 w) ∧ (∀ w : Int32, (∀ u, u < 3 → w ≠ nI (3 * q + u)) → B2 53 w = B 53 w) ∧ ∀ u, u < 3 → B2 53 (nI (3 * q + u)) = A2 x (nI u) ∧ mj_in (A2 x (nI u)) 4)
theorem rq_plant (hK : rq_RC dd k i n A0 B0) {q x y : Nat} (hq : q < 3) (hx : x = dd + 5 + q) {A B : mj_I} (h : rq_RB dd k i n A0 B0 y A B) (h13 : B 42 13 = nI q) : rq_P3 dd k i n x q A0 B0 A B := by
  have hdd := hK.1
  have el := rq_lt42 hK h
  -- behind a sign
  have go : ∀ (kd f : Int32), y < n → mj_in kd 3 → s_X2_takeKind (34 + 2 * k + 1) A = (kd, mj_upI A 18 3 (nI (y + 1))) → s_X6_readPlant (nI (60 * k + i + n)) B = s_X6_rw (nI (60 * k + i + n)) (nI q) f 3 0 (mj_upI (mj_upI B 52 (nI q) kd) 42 11 (nI (60 * k + i + (y + 1)))) → rq_P3 dd k i n x q A0 B0 A B := by
    intro kd f hy hkd e1 e2
    have kneg : ¬ kd < 0 := fun g => by have := mj_iL g; have := hkd.1; have e : (0 : Int32).toInt = 0 := rfl; omega
    have r := rq_rsw hK hq hx f (mj_upI A 18 3 (nI (y + 1))) (mj_upI (mj_upI B 52 (nI q) kd) 42 11 (nI (60 * k + i + (y + 1)))) 3 0 (y + 1) (mj_upI A 18 3 (nI (y + 1))) (mj_upI (mj_upI B 52 (nI q) kd) 42 11 (nI (60 * k + i + (y + 1)))) rfl (rq_RB_y (rq_RB_b h (by omega)) hy) (fun _ _ _ => rfl) (fun _ _ _ => rfl) (fun _ _ => rfl) (fun _ _ => rfl) (fun u hu => absurd hu (by omega))
    have es : ∀ I : mj_I, s_X2_readsSeasons (34 + 2 * k + 1) x 3 3 I = s_X2_rs (34 + 2 * k + 1) x 3 3 3 0 I := fun _ => rfl
    unfold rq_P3
    rw [e1, e2]
    dsimp only
    rw [es]
    rcases r with ⟨r1, r2, r3⟩ | ⟨r1, r2, r3, r4, r5, r6, r7, r8⟩
    · exact Or.inr (Or.inl ⟨kneg, r1, r2, r3⟩)
    · refine Or.inr (Or.inr ⟨kneg, r1, r2, hkd, _, _, rfl, rfl, r3, fun z hz hz2 => ?_, fun z hz hz2 hz3 => ?_, ⟨?_, ?_⟩, ⟨?_, fun w hw => ?_⟩, fun w hw => ?_, r8⟩)
      · exact (r4 z hz hz2).trans (mj_upI_ne hz)
      · rw [r5 z hz hz3, mj_upI_ne hz, mj_upI_ne hz2]
      · rw [r6.1, mj_upI_eq, if_neg (by decide), mj_upI_ne (by decide)]
      · rw [r6.2, mj_upI_eq, if_neg (by decide), mj_upI_ne (by decide)]
      · rw [r5 52 (by decide) (by decide), mj_upI_ne (by decide), mj_upI_eq, if_pos rfl]
      · rw [r5 52 (by decide) (by decide), mj_upI_ne (by decide), mj_upI_eq, if_neg hw]
      · rw [r7 w hw, mj_upI_ne (by decide), mj_upI_ne (by decide)]
  have e11 : B 42 11 + 1 = nI (60 * k + i + (y + 1)) := by rw [h.2.2.2.2.1]; exact nI_1 _
  have k1 : ∀ v, s_X2_takes (34 + 2 * k + 1) v A = if y < n ∧ rq_at k i A0 y = v then (1, mj_upI A 18 3 (nI (y + 1))) else (0, A) := by
    intro v
    rcases rq_tk hK h v with ⟨q1, q2, _⟩ | ⟨q1, q2, _⟩
    · rw [q2, if_pos q1]
    · rw [q2, if_neg q1]
  by_cases hy : y < n
  · have e45 := rq_B45 hK h hy
    by_cases v1 : rq_at k i A0 y = 112
    · refine go 0 112 hy ⟨by decide, by decide⟩ ?_ ?_
      · have t112 : s_X2_takes (34 + 2 * k + 1) 112 A = (1, mj_upI A 18 3 (nI (y + 1))) := by rw [k1 112, if_pos (show y < n ∧ rq_at k i A0 y = 112 from ⟨hy, v1⟩)]
        unfold s_X2_takeKind
        simp only [t112, rq_n10, if_false]
      · unfold s_X6_readPlant
        rw [if_pos (el.mpr hy), e45, v1, if_pos rfl, h13, e11]
    · have n1 : ¬ (y < n ∧ rq_at k i A0 y = 112) := fun g => v1 g.2
      by_cases v2 : rq_at k i A0 y = 115
      · refine go 1 115 hy ⟨by decide, by decide⟩ ?_ ?_
        · have z112 : s_X2_takes (34 + 2 * k + 1) 112 A = (0, A) := by rw [k1 112, if_neg n1]
          have t115 : s_X2_takes (34 + 2 * k + 1) 115 A = (1, mj_upI A 18 3 (nI (y + 1))) := by rw [k1 115, if_pos (show y < n ∧ rq_at k i A0 y = 115 from ⟨hy, v2⟩)]
          unfold s_X2_takeKind
          simp only [z112, t115, rq_n10, if_false, if_true]
        · unfold s_X6_readPlant
          rw [if_pos (el.mpr hy), e45, if_neg v1, v2, if_pos rfl, h13, e11]
      · have n2 : ¬ (y < n ∧ rq_at k i A0 y = 115) := fun g => v2 g.2
        by_cases v3 : rq_at k i A0 y = 119
        · refine go 2 119 hy ⟨by decide, by decide⟩ ?_ ?_
          · have z112 : s_X2_takes (34 + 2 * k + 1) 112 A = (0, A) := by rw [k1 112, if_neg n1]
            have z115 : s_X2_takes (34 + 2 * k + 1) 115 A = (0, A) := by rw [k1 115, if_neg n2]
            have t119 : s_X2_takes (34 + 2 * k + 1) 119 A = (1, mj_upI A 18 3 (nI (y + 1))) := by rw [k1 119, if_pos (show y < n ∧ rq_at k i A0 y = 119 from ⟨hy, v3⟩)]
            unfold s_X2_takeKind
            simp only [z112, z115, t119, rq_n10, if_false, if_true]
          · unfold s_X6_readPlant
            rw [if_pos (el.mpr hy), e45, if_neg v1, if_neg v2, v3, if_pos rfl, h13, e11]
        · have n3 : ¬ (y < n ∧ rq_at k i A0 y = 119) := fun g => v3 g.2
          have e1 : s_X2_takeKind (34 + 2 * k + 1) A = (-1, A) := by
            have z112 : s_X2_takes (34 + 2 * k + 1) 112 A = (0, A) := by rw [k1 112, if_neg n1]
            have z115 : s_X2_takes (34 + 2 * k + 1) 115 A = (0, A) := by rw [k1 115, if_neg n2]
            have z119 : s_X2_takes (34 + 2 * k + 1) 119 A = (0, A) := by rw [k1 119, if_neg n3]
            unfold s_X2_takeKind
            simp only [z112, z115, z119, if_true]
          have e2 : s_X6_readPlant (nI (60 * k + i + n)) B = (0, mj_upI B 52 (B 42 13) (-9)) := by
            unfold s_X6_readPlant
            rw [if_pos (el.mpr hy), e45, if_neg v1, if_neg v2, if_neg v3]
          unfold rq_P3
          rw [e1, e2]
          dsimp only
          exact Or.inl ⟨(by decide : (-1 : Int32) < 0), rfl, y, rq_RB_b h (by omega)⟩
  · have nn : ∀ v, ¬ (y < n ∧ rq_at k i A0 y = v) := fun v g => hy g.1
    have e1 : s_X2_takeKind (34 + 2 * k + 1) A = (-1, A) := by
      have z112 : s_X2_takes (34 + 2 * k + 1) 112 A = (0, A) := by rw [k1 112, if_neg (nn _)]
      have z115 : s_X2_takes (34 + 2 * k + 1) 115 A = (0, A) := by rw [k1 115, if_neg (nn _)]
      have z119 : s_X2_takes (34 + 2 * k + 1) 119 A = (0, A) := by rw [k1 119, if_neg (nn _)]
      unfold s_X2_takeKind
      simp only [z112, z115, z119, if_true]
    have e2 : s_X6_readPlant (nI (60 * k + i + n)) B = (0, mj_upI B 52 (B 42 13) (-9)) := by
      unfold s_X6_readPlant
      rw [if_neg (fun g => hy (el.mp g))]
    unfold rq_P3
    rw [e1, e2]
    dsimp only
    exact Or.inl ⟨(by decide : (-1 : Int32) < 0), rfl, y, rq_RB_b h (by omega)⟩
/-- how reading ends -/
def rq_End (dd k i n m : Nat) (A0 B0 : mj_I) (v : Int32) (P : mj_I) (w : Int32) (Q : mj_I) : Prop := ((v = 0 ∨ ¬ P 18 3 = P 18 2) ∧ w = 0 ∧ ∃ y, rq_RB dd k i n A0 B0 y P Q) ∨ (v = 1 ∧ P 18 3 = P 18 2 ∧ w = 1 ∧ (∃ y, rq_RB dd k i n A0 B0 y P Q) ∧ rq_SC dd m P Q ∧ ∃ p, p ≤ 3 ∧ P dd 1 = nI p ∧ Q 42 13 = nI p ∧ rq_PK dd p P Q)
theorem rq_pls (hK : rq_RC dd k i n A0 B0) {m : Nat} : ∀ (t j y : Nat) (A B : mj_I), t + j = 3 → rq_RB dd k i n A0 B0 y A B → rq_SC dd m A B → rq_PK dd j A B → A dd 1 = nI j → B 42 13 = nI j → rq_End dd k i n m A0 B0 (s_X2_pl dd (34 + 2 * k + 1) t j A).1 (s_X2_pl dd (34 + 2 * k + 1) t j A).2 (s_X6_rC (nI (60 * k + i + n)) t j B).1 (s_X6_rC (nI (60 * k + i + n)) t j B).2 := by
  have hdd := hK.1
  have hin := hK.2.2.1
  have hk4 := hK.2.1
  have eqn : ∀ {y : Nat} {A B : mj_I}, rq_RB dd k i n A0 B0 y A B → (B 42 11 = nI (60 * k + i + n) ↔ y = n) ∧ (A 18 3 = A 18 2 ↔ y = n) := by
    intro y A B h
    have := h.1
    rw [h.2.2.1, h.2.2.2.1, h.2.2.2.2.1, rq_nIe (by omega) (by omega), rq_nIe (by omega) (by omega)]
    exact ⟨by omega, Iff.rfl⟩
  intro t
  induction t with
  | zero =>
    intro j y A B hj h hS hP h1 h13
    have : j = 3 := by omega
    subst this
    rw [s_X2_pl, s_X6_rC, if_pos (by rw [h1]; decide)]
    obtain ⟨q1, q2⟩ := eqn h
    by_cases hy : y = n
    · rw [if_pos (q1.mpr hy)]
      dsimp only
      exact Or.inr ⟨rfl, q2.mpr hy, rfl, ⟨y, h⟩, hS, 3, by omega, h1, h13, hP⟩
    · rw [if_neg (fun g => hy (q1.mp g))]
      dsimp only
      exact Or.inl ⟨Or.inr (fun g => hy (q2.mp g)), rfl, y, h⟩
  | succ t ih =>
    intro j y A B hj h hS hP h1 h13
    have hj3 : j < 3 := by omega
    have el := rq_lt42 hK h
    obtain ⟨q1, q2⟩ := eqn h
    rw [s_X2_pl, s_X6_rC, h13]
    rcases rq_tk hK h 44 with ⟨⟨hy, _⟩, e5, e6⟩ | ⟨_, e5, e6⟩
    · rw [e5, e6]
      dsimp only
      rw [if_neg (show ¬ (1 : Int32) = 0 by decide), if_neg (show ¬ (1 : Int32) = 0 by decide), if_pos (el.mpr hy), if_pos (show nI j < 3 from nI_lt (b := 3) (by omega) (by omega)), ite_self]
      have h' := rq_RB_y h hy
      have h13' : mj_upI B 42 11 (nI (60 * k + i + (y + 1))) 42 13 = nI j := by rw [mj_upI_eq, if_neg (by decide)]; exact h13
      rcases rq_plant hK hj3 (x := dd + 4 + 1 + j) rfl h' h13' with ⟨p1, p2, p3⟩ | ⟨p1, p2, p3, p4⟩ | ⟨p1, p2, p3, p4, A2, B2, eA, eB, ⟨y', hRB⟩, fA, fB, ⟨f12, f13⟩, ⟨f52, f52'⟩, f53, f53'⟩
      · rw [if_pos p1, if_pos p2]
        dsimp only
        exact Or.inl ⟨Or.inl rfl, rfl, p3⟩
      · rw [if_neg p1, if_pos p2, if_pos p3]
        dsimp only
        exact Or.inl ⟨Or.inl rfl, rfl, p4⟩
      · rw [if_neg p1, if_neg (by rw [p2]; decide), if_neg (by rw [p3]; decide), eA, eB, show nI j + 1 = nI (j + 1) from nI_1 j]
        have hA : ∀ z, z ≠ 18 → z ≠ dd + 5 + j → z ≠ dd + 3 → z ≠ dd → mj_upI (mj_upI A2 (dd + 3) (nI j) (s_X2_takeKind (34 + 2 * k + 1) (mj_upI A 18 3 (nI (y + 1)))).1) dd 1 (nI (j + 1)) z = A z := by
          intro z z1 z2 z3 z4
          rw [mj_upI_ne z4, mj_upI_ne z3, fA z z1 z2, mj_upI_ne z1]
        refine ih (j + 1) y' _ _ (by omega) (rq_RB_a hK (rq_RB_a hK hRB (by omega)) (by omega)) ?_ ?_ ?_ ?_
        · refine rq_SC_eq ?_ (hA (dd + 1) (by omega) (by omega) (by omega) (by omega)) (hA (dd + 2) (by omega) (by omega) (by omega) (by omega)) ?_ ?_ ?_ hS
          · rw [mj_upI_eq, if_neg (by decide), mj_upI_ne (by omega), fA dd (by omega) (by omega), mj_upI_ne (by omega)]
          · rw [f12, mj_upI_eq, if_neg (by decide)]
          · rw [fB 50 (by decide) (by decide) (by decide), mj_upI_ne (by decide)]
          · rw [fB 51 (by decide) (by decide) (by decide), mj_upI_ne (by decide)]
        · intro u hu
          rw [mj_upI_ne (show dd + 3 ≠ dd by omega), mj_upI_eq, mj_upI_ne (show dd + 5 + u ≠ dd by omega), mj_upI_ne (show dd + 5 + u ≠ dd + 3 by omega)]
          by_cases huj : u = j
          · subst huj
            rw [if_pos rfl]
            exact ⟨f52, p4, f53'⟩
          · obtain ⟨a1, a2, a3⟩ := hP u (by omega)
            have nu : ¬ nI u = nI j := fun hh => huj ((rq_nIe (by omega) (by omega)).mp hh)
            rw [if_neg nu, f52' _ nu, mj_upI_ne (by decide), fA (dd + 3) (by omega) (by omega), mj_upI_ne (by omega), fA (dd + 5 + u) (by omega) (by omega), mj_upI_ne (by omega)]
            refine ⟨a1, a2, fun t ht => ?_⟩
            rw [f53 _ (fun u2 hu2 hh => by have := (rq_nIe (by omega) (by omega)).mp hh; omega), mj_upI_ne (by decide)]
            exact a3 t ht
        · rw [mj_upI_eq, if_pos rfl]
        · rw [f13, h13']; exact nI_1 j
    · rw [e5, e6]
      dsimp only
      rw [if_pos rfl, if_pos rfl]
      have e0 : (if nI j = 0 then ((0 : Int32), B) else if nI j < 3 then if B 42 11 < nI (60 * k + i + n) then ((0 : Int32), B) else if B 42 11 = nI (60 * k + i + n) then (1, B) else (0, B) else if B 42 11 = nI (60 * k + i + n) then (1, B) else (0, B)) = if j = 0 then (0, B) else if y < n then (0, B) else (1, B) := by
        by_cases hj0 : j = 0
        · rw [if_pos (by rw [hj0]; rfl), if_pos hj0]
        · rw [if_neg (show ¬ nI j = 0 from fun g => hj0 ((rq_nIe (b := 0) (by omega) (by omega)).mp g)), if_neg hj0, if_pos (show nI j < 3 from nI_lt (b := 3) (by omega) (by omega))]
          by_cases hy : y < n
          · rw [if_pos (el.mpr hy), if_pos hy]
          · have := h.1
            rw [if_neg (fun g => hy (el.mp g)), if_neg hy, if_pos (q1.mpr (by omega))]
      rw [e0]
      by_cases hj0 : j = 0
      · rw [if_pos hj0, if_neg (show ¬ 0 < A dd 1 by rw [h1, hj0]; decide)]
        dsimp only
        exact Or.inl ⟨Or.inl rfl, rfl, y, h⟩
      · rw [if_neg hj0, if_pos (show 0 < A dd 1 by rw [h1]; exact nI_lt (a := 0) (by omega) (by omega))]
        by_cases hy : y < n
        · rw [if_pos hy]
          dsimp only
          exact Or.inl ⟨Or.inr (fun g => by have := q2.mp g; omega), rfl, y, h⟩
        · have := h.1
          rw [if_neg hy]
          dsimp only
          exact Or.inr ⟨rfl, q2.mpr (by omega), rfl, ⟨y, h⟩, hS, j, by omega, h1, h13, hP⟩
end VP
