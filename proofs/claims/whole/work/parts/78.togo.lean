/-! the quickest: findToGo makes the table right -/
section VV
variable {cc m p R : Nat} {A B : mj_I}
/-- the memory behind findToGo -/
def rq_ft (A : mj_I) (cc m p : Nat) (B I : mj_I) (T : Nat → Nat) : Prop := (∀ x, x ≠ 42 → x ≠ 57 → I x = B x) ∧ (∀ z, z ≠ 23 → I 42 z = B 42 z) ∧ rq_tb A cc m p I T
theorem rq_stab {e : Nat} (hR : mj_RL cc m p R A B) (h : ∀ y, y < 2058 → rq_okv A cc m p y → rq_cn A cc m (e + 1) y → rq_cn A cc m e y) : ∀ k y, y < 2058 → rq_okv A cc m p y → rq_cn A cc m (e + k) y → rq_cn A cc m e y := by
  intro k
  induction k with
  | zero => intro y _ _ q; exact q
  | succ k ih =>
    rintro y hy hok (q | ⟨t, ht, hE, q⟩)
    · exact ih y hy hok q
    · obtain ⟨_, b2, b3⟩ := rq_Bv hR hy hok ht
      exact h y hy hok (Or.inr ⟨t, ht, hE, ih _ b2 b3 q⟩)
theorem rq_gb (hR : mj_RL cc m p R A B) : ∀ (k j : Nat) (g : Int32) (I : mj_I) (T : Nat → Nat), k + j = 24 → 1 ≤ j → rq_ft A cc m p B I T → rq_ri A cc m p (j - 1) T → (g = 0 → ∀ y, y < 2058 → rq_okv A cc m p y → rq_cn A cc m j y → rq_cn A cc m (j - 1) y) → ∃ T2, rq_ft A cc m p B (s_X6_gb m k j g I) T2 ∧ rq_ri A cc m p 23 T2 ∧ s_X6_gb m k j g I 42 23 = 1 := by
  have fin : ∀ (I : mj_I) (T : Nat → Nat), rq_ft A cc m p B I T → rq_ft A cc m p B (mj_upI I 42 23 1) T ∧ mj_upI I 42 23 1 42 23 = 1 := by
    rintro I T ⟨f1, f2, f3⟩
    refine ⟨⟨fun x hx hx2 => by rw [mj_upI_ne hx]; exact f1 x hx hx2, fun z hz => by rw [mj_upI_eq, if_neg hz]; exact f2 z hz, fun y hy hok => ?_⟩, by rw [mj_upI_eq, if_pos rfl]⟩
    rw [mj_upI_ne (by decide)]; exact f3 y hy hok
  intro k
  induction k with
  | zero =>
    intro j g I T hj h1 hf hr _
    have : j = 24 := by omega
    subst this
    rw [s_X6_gb]
    exact ⟨T, (fin I T hf).1, hr, (fin I T hf).2⟩
  | succ k ih =>
    intro j g I T hj h1 hf hr hg
    rw [s_X6_gb]
    by_cases h0 : g = 0
    · rw [if_pos h0]
      refine ⟨T, (fin I T hf).1, fun y hy hok => ?_, (fin I T hf).2⟩
      obtain ⟨i, rfl⟩ : ∃ i, j = i + 1 := ⟨j - 1, by omega⟩
      have st := rq_stab (e := i) hR (fun y hy hok q => hg h0 y hy hok q)
      rcases hr y hy hok with q | q
      · refine Or.inl ⟨q.1, fun w => q.2 ?_⟩
        have := st (23 - i) y hy hok (by rw [show i + (23 - i) = 23 by omega]; exact w)
        exact this
      · exact Or.inr ⟨by omega, q.2⟩
    · rw [if_neg h0]
      obtain ⟨i, rfl⟩ : ∃ i, j = i + 1 := ⟨j - 1, by omega⟩
      obtain ⟨T2, d1, d2, d3, d4, d5⟩ := rq_fd hR (e := i) (by omega) (T := T) hr 2058 0 0 I T rfl hf.1 hf.2.1 hf.2.2 (fun y hy => absurd hy (by omega)) (fun _ _ => rfl) (fun _ y hy => absurd hy (by omega))
      refine ih (i + 1 + 1) _ _ T2 (by omega) (by omega) ⟨d3, d4, d1⟩ (rq_ri_up (by omega) hr d2) (fun hz y hy hok q => ?_)
      have nn := d5 hz y hy
      -- nothing new: what can in i + 1 days can in i days
      have low : ∀ y, y < 2058 → rq_okv A cc m p y → rq_cn A cc m (i + 1) y → rq_cn A cc m i y := by
        intro y hy hok q
        rcases hr y hy hok with w | w
        · exact absurd ⟨w.1, hok, q⟩ (d5 hz y hy)
        · exact rq_cn_up w.2.1 w.1
      rcases q with q | ⟨t, ht, hE, q⟩
      · exact q
      · obtain ⟨_, b2, b3⟩ := rq_Bv hR hy hok ht
        exact Or.inr ⟨t, ht, hE, low _ b2 b3 q⟩
theorem rq_ga : ∀ (k j : Nat) (I : mj_I), k + j = 2058 → I 42 23 = 0 → (∀ y, y < j → I 57 (nI y) = rq_cd (if y / 6 = 342 then 0 else 1000)) → (∀ x, x ≠ 57 → s_X6_ga k j I x = I x) ∧ ∀ y, y < 2058 → s_X6_ga k j I 57 (nI y) = rq_cd (if y / 6 = 342 then 0 else 1000) := by
  intro k
  induction k with
  | zero =>
    intro j I hj _ h
    have : j = 2058 := by omega
    subst this
    exact ⟨fun _ _ => rfl, h⟩
  | succ k ih =>
    intro j I hj h0 h
    have step : s_X6_ga (k + 1) j I = s_X6_ga k (j + 1) (mj_upI I 57 (nI j) (rq_cd (if j / 6 = 342 then 0 else 1000))) := by
      rw [s_X6_ga, if_pos h0, (rq_d6 (G := j) (by omega)).1]
      by_cases q : j / 6 = 342
      · rw [if_pos (show nI (j / 6) = 342 by rw [q]; rfl), if_pos q]; rfl
      · rw [if_neg (show ¬ nI (j / 6) = 342 from fun w => q ((rq_nIe (b := 342) (by omega) (by omega)).mp w)), if_neg q]; rfl
    rw [step]
    obtain ⟨i1, i2⟩ := ih (j + 1) (mj_upI I 57 (nI j) (rq_cd (if j / 6 = 342 then 0 else 1000))) (by omega) (by rw [mj_upI_ne (by decide)]; exact h0) (fun y hy => by
      rw [mj_upI_eq]
      by_cases hyj : y = j
      · rw [if_pos (by rw [hyj]), hyj]
      · rw [if_neg (show ¬ nI y = nI j from fun hh => hyj ((nI_eq (by omega) (by omega)).mp hh))]; exact h y (by omega))
    exact ⟨fun x hx => by rw [i1 x hx, mj_upI_ne hx], i2⟩
theorem rq_ga1 : ∀ (k j : Nat) (I : mj_I), ¬ I 42 23 = 0 → s_X6_ga k j I = I := by
  intro k j I h
  cases k with
  | zero => rfl
  | succ k => rw [s_X6_ga, if_neg h]
theorem rq_TO_T (hR : mj_RL cc m p R A B) (h : mj_TO m B) : ∃ T, rq_tb A cc m p B T ∧ rq_ri A cc m p 23 T := by
  refine ⟨fun y => if B 57 (nI y) = -9 then 1000 else (B 57 (nI y)).toInt.toNat, fun y hy hok => ?_, fun y hy hok => ?_⟩
  · show B 57 (nI y) = rq_cd (if B 57 (nI y) = -9 then 1000 else (B 57 (nI y)).toInt.toNat) ∧ (if B 57 (nI y) = -9 then 1000 else (B 57 (nI y)).toInt.toNat) ≤ 1000
    rcases h (nI y) (mj_in_nI hy (by omega)) ((rq_isv hR hy).mpr hok) with q | ⟨d, hd, e1, _⟩
    · rw [if_pos q.1]; exact ⟨q.1, by omega⟩
    · rw [e1, if_neg (rq_m9 (show d < 1000 by omega)), nI_toInt (by omega)]
      have : ((d : Nat) : Int).toNat = d := by omega
      rw [this]
      exact ⟨(if_neg (by omega)).symm, by omega⟩
  · show ((if B 57 (nI y) = -9 then 1000 else (B 57 (nI y)).toInt.toNat) = 1000 ∧ _) ∨ ((if B 57 (nI y) = -9 then 1000 else (B 57 (nI y)).toInt.toNat) ≤ 23 ∧ rq_cn A cc m (if B 57 (nI y) = -9 then 1000 else (B 57 (nI y)).toInt.toNat) y ∧ ∀ d, d < (if B 57 (nI y) = -9 then 1000 else (B 57 (nI y)).toInt.toNat) → ¬ rq_cn A cc m d y)
    rcases h (nI y) (mj_in_nI hy (by omega)) ((rq_isv hR hy).mpr hok) with q | ⟨d, hd, e1, c1, c2⟩
    · rw [if_pos q.1]; exact Or.inl ⟨rfl, fun w => q.2 ((rq_can hR 23 y hy hok).mpr w)⟩
    · have : ((d : Nat) : Int).toNat = d := by omega
      rw [e1, if_neg (rq_m9 (show d < 1000 by omega)), nI_toInt (by omega), this]
      exact Or.inr ⟨hd, (rq_can hR d y hy hok).mp c1, fun e he w => c2 e he ((rq_can hR e y hy hok).mpr w)⟩
/-- findToGo -/
theorem rq_ftg (hR : mj_RL cc m p R A B) : ∃ T, rq_ft A cc m p B (s_X6_findToGo m B) T ∧ rq_ri A cc m p 23 T ∧ s_X6_findToGo m B 42 23 = 1 := by
  unfold s_X6_findToGo
  rcases hR.2.2.2.2.2.2.2.1 with h0 | ⟨h1, hTO⟩
  · obtain ⟨g1, g2⟩ := rq_ga 2058 0 B rfl h0 (fun y hy => absurd hy (by omega))
    rw [if_pos (by rw [g1 42 (by decide)]; exact h0)]
    refine rq_gb hR 23 1 1 _ (fun y => if y / 6 = 342 then 0 else 1000) rfl (by omega) ⟨fun x hx hx2 => g1 x hx2, fun z _ => by rw [g1 42 (by decide)], fun y hy hok => ⟨g2 y hy, ?_⟩⟩ (fun y hy hok => ?_) (fun q => absurd q (by decide))
    · show (if y / 6 = 342 then 0 else 1000) ≤ 1000
      split <;> omega
    · show ((if y / 6 = 342 then 0 else 1000) = 1000 ∧ ¬ y / 6 = 342) ∨ ((if y / 6 = 342 then 0 else 1000) ≤ 0 ∧ rq_cn A cc m (if y / 6 = 342 then 0 else 1000) y ∧ ∀ d, d < (if y / 6 = 342 then 0 else 1000) → ¬ rq_cn A cc m d y)
      by_cases q : y / 6 = 342
      · rw [if_pos q]; exact Or.inr ⟨by omega, q, fun d hd => absurd hd (by omega)⟩
      · rw [if_neg q]; exact Or.inl ⟨rfl, q⟩
  · have n0 : ¬ B 42 23 = 0 := by rw [h1]; decide
    rw [rq_ga1 2058 0 B n0, if_neg n0]
    obtain ⟨T, t1, t2⟩ := rq_TO_T hR hTO
    have e : s_X6_gb m 23 1 0 B = mj_upI B 42 23 1 := by rw [s_X6_gb, if_pos rfl]
    rw [e]
    refine ⟨T, ⟨fun x hx _ => mj_upI_ne hx, fun z hz => by rw [mj_upI_eq, if_neg hz], fun y hy hok => ?_⟩, t2, by rw [mj_upI_eq, if_pos rfl]⟩
    rw [mj_upI_ne (by decide)]; exact t1 y hy hok
theorem rq_T_TO (hR : mj_RL cc m p R A B) {I : mj_I} {T : Nat → Nat} (hf : rq_ft A cc m p B I T) (hr : rq_ri A cc m p 23 T) : mj_TO m B → True := fun _ => trivial
theorem rq_ce_ft {I : mj_I} {T : Nat → Nat} (hf : rq_ft A cc m p B I T) : mj6_ce B I := ⟨hf.2.1 5 (by decide), hf.2.1 6 (by decide), hf.1 46 (by decide) (by decide), hf.1 47 (by decide) (by decide), hf.1 48 (by decide) (by decide), hf.1 49 (by decide) (by decide)⟩
/-- the relation behind findToGo -/
theorem rq_RL_ft (hR : mj_RL cc m p R A B) {I : mj_I} {T : Nat → Nat} (hf : rq_ft A cc m p B I T) (hr : rq_ri A cc m p 23 T) (h1 : I 42 23 = 1) : mj_RL cc m p R A I := by
  have hR0 := hR
  obtain ⟨f1, f2, f3⟩ := hf
  obtain ⟨a, b, c, d, e, f, g, k, q⟩ := hR
  have hcan : ∀ d v, mj_can m I d v ↔ mj_can m B d v := by
    intro d
    induction d with
    | zero => intro v; exact Iff.rfl
    | succ d ih =>
      intro v
      have hm : ∀ x t, s_X6_mayGo x t I = s_X6_mayGo x t B := by
        intro x t
        unfold s_X6_mayGo
        rw [f1 47 (by decide) (by decide)]
      simp only [mj_can, ih, hm, mj6_B_eq (rq_ce_ft ⟨f1, f2, f3⟩)]
  refine ⟨a, ?_, ?_, ?_, ?_, ?_, ?_, Or.inr ⟨h1, ?_⟩, q⟩
  · unfold mj_rS at b ⊢
    rw [f2 5 (by decide), f2 6 (by decide), f2 25 (by decide)]; exact b
  · unfold mj_rT at c ⊢
    rw [f2 1 (by decide), f2 0 (by decide)]; exact c
  · unfold mj_rC at d ⊢
    rw [f1 46 (by decide) (by decide), f1 47 (by decide) (by decide)]; exact d
  · intro s hs
    rw [f1 48 (by decide) (by decide), f1 49 (by decide) (by decide)]; exact e s hs
  · intro s hs
    rw [f1 59 (by decide) (by decide), f1 60 (by decide) (by decide)]; exact f s hs
  · intro s hs
    unfold mj_rH1
    rw [f1 43 (by decide) (by decide), f1 44 (by decide) (by decide), f1 45 (by decide) (by decide)]; exact g s hs
  · intro v hv hs
    obtain ⟨y, hy, rfl⟩ := mj6_nat hv (by omega)
    rw [mj6_is_eq (rq_ce_ft ⟨f1, f2, f3⟩)] at hs
    have hok := (rq_isv hR0 hy).mp hs
    obtain ⟨t1, t2⟩ := f3 y hy hok
    rw [t1]
    rcases hr y hy hok with w | w
    · exact Or.inl ⟨(rq_cd9 t2).mpr w.1, fun u => w.2 ((rq_can hR0 23 y hy hok).mp ((hcan _ _).mp u))⟩
    · exact Or.inr ⟨T y, w.1, if_neg (by omega), (hcan _ _).mpr ((rq_can hR0 _ y hy hok).mpr w.2.1), fun d hd u => w.2.2 d hd ((rq_can hR0 d y hy hok).mp ((hcan _ _).mp u))⟩
end VV
