/-! the cells behind the two constructors: 41 of the class, then the reference's -/
def mj_KK (L : Nat) (k : Nat) : mj_K := bif Nat.blt k 31 then (bif Nat.blt k 15 then (bif Nat.blt k 7 then (bif Nat.blt k 3 then (bif Nat.blt k 1 then (bif Nat.beq k 0 then .inr (9, L) else .inl 99) else (bif Nat.blt k 2 then (bif Nat.beq k 1 then .inl 5 else .inl 99) else (bif Nat.beq k 2 then .inl 1 else .inl 99))) else (bif Nat.blt k 5 then (bif Nat.blt k 4 then (bif Nat.beq k 3 then .inr (0, 6) else .inl 99) else (bif Nat.beq k 4 then .inr (0, 6) else .inl 99)) else (bif Nat.blt k 6 then (bif Nat.beq k 5 then .inr (0, 3) else .inl 99) else (bif Nat.beq k 6 then .inr (1, 3) else .inl 99)))) else (bif Nat.blt k 11 then (bif Nat.blt k 9 then (bif Nat.blt k 8 then (bif Nat.beq k 7 then .inr (0, 3) else .inl 99) else (bif Nat.beq k 8 then .inr (0, 3) else .inl 99)) else (bif Nat.blt k 10 then (bif Nat.beq k 9 then .inr (0, 3) else .inl 99) else (bif Nat.beq k 10 then .inl 1 else .inl 99))) else (bif Nat.blt k 13 then (bif Nat.blt k 12 then (bif Nat.beq k 11 then .inr (0, 6) else .inl 99) else (bif Nat.beq k 12 then .inr (0, 6) else .inl 99)) else (bif Nat.blt k 14 then (bif Nat.beq k 13 then .inr (0, 3) else .inl 99) else (bif Nat.beq k 14 then .inr (1, 3) else .inl 99))))) else (bif Nat.blt k 23 then (bif Nat.blt k 19 then (bif Nat.blt k 17 then (bif Nat.blt k 16 then (bif Nat.beq k 15 then .inr (0, 3) else .inl 99) else (bif Nat.beq k 16 then .inr (0, 3) else .inl 99)) else (bif Nat.blt k 18 then (bif Nat.beq k 17 then .inr (0, 3) else .inl 99) else (bif Nat.beq k 18 then .inl 2 else .inl 99))) else (bif Nat.blt k 21 then (bif Nat.blt k 20 then (bif Nat.beq k 19 then .inr (0, 0) else .inl 99) else (bif Nat.beq k 20 then .inl 3 else .inl 99)) else (bif Nat.blt k 22 then (bif Nat.beq k 21 then .inr (0, 3072) else .inl 99) else (bif Nat.beq k 22 then .inr (0, 3072) else .inl 99)))) else (bif Nat.blt k 27 then (bif Nat.blt k 25 then (bif Nat.blt k 24 then (bif Nat.beq k 23 then .inr (0, 3072) else .inl 99) else (bif Nat.beq k 24 then .inr (0, 24) else .inl 99)) else (bif Nat.blt k 26 then (bif Nat.beq k 25 then .inl 0 else .inl 99) else (bif Nat.beq k 26 then .inr (0, 48) else .inl 99))) else (bif Nat.blt k 29 then (bif Nat.blt k 28 then (bif Nat.beq k 27 then .inr (0, 48) else .inl 99) else (bif Nat.beq k 28 then .inr (2, 4) else .inl 99)) else (bif Nat.blt k 30 then (bif Nat.beq k 29 then .inr (0, 24) else .inl 99) else (bif Nat.beq k 30 then .inr (0, 3) else .inl 99)))))) else (bif Nat.blt k 47 then (bif Nat.blt k 39 then (bif Nat.blt k 35 then (bif Nat.blt k 33 then (bif Nat.blt k 32 then (bif Nat.beq k 31 then .inr (0, 6) else .inl 99) else (bif Nat.beq k 32 then .inr (0, 8) else .inl 99)) else (bif Nat.blt k 34 then (bif Nat.beq k 33 then .inr (0, 8) else .inl 99) else (bif Nat.beq k 34 then .inl 4 else .inl 99))) else (bif Nat.blt k 37 then (bif Nat.blt k 36 then (bif Nat.beq k 35 then .inr (0, 60) else .inl 99) else (bif Nat.beq k 36 then .inl 4 else .inl 99)) else (bif Nat.blt k 38 then (bif Nat.beq k 37 then .inr (0, 60) else .inl 99) else (bif Nat.beq k 38 then .inl 4 else .inl 99)))) else (bif Nat.blt k 43 then (bif Nat.blt k 41 then (bif Nat.blt k 40 then (bif Nat.beq k 39 then .inr (0, 60) else .inl 99) else (bif Nat.beq k 40 then .inl 4 else .inl 99)) else (bif Nat.blt k 42 then (bif Nat.beq k 41 then .inr (0, 60) else .inl 99) else (bif Nat.beq k 42 then .inl 6 else .inl 99))) else (bif Nat.blt k 45 then (bif Nat.blt k 44 then (bif Nat.beq k 43 then .inr (0, 4) else .inl 99) else (bif Nat.beq k 44 then .inr (0, 4) else .inl 99)) else (bif Nat.blt k 46 then (bif Nat.beq k 45 then .inr (0, 240) else .inl 99) else (bif Nat.beq k 46 then .inr (0, 6) else .inl 99))))) else (bif Nat.blt k 55 then (bif Nat.blt k 51 then (bif Nat.blt k 49 then (bif Nat.blt k 48 then (bif Nat.beq k 47 then .inr (0, 6) else .inl 99) else (bif Nat.beq k 48 then .inr (0, 3) else .inl 99)) else (bif Nat.blt k 50 then (bif Nat.beq k 49 then .inr (0, 9) else .inl 99) else (bif Nat.beq k 50 then .inr (0, 6) else .inl 99))) else (bif Nat.blt k 53 then (bif Nat.blt k 52 then (bif Nat.beq k 51 then .inr (0, 6) else .inl 99) else (bif Nat.beq k 52 then .inr (0, 3) else .inl 99)) else (bif Nat.blt k 54 then (bif Nat.beq k 53 then .inr (0, 9) else .inl 99) else (bif Nat.beq k 54 then .inr (0, 24) else .inl 99)))) else (bif Nat.blt k 59 then (bif Nat.blt k 57 then (bif Nat.blt k 56 then (bif Nat.beq k 55 then .inr (0, 3) else .inl 99) else (bif Nat.beq k 56 then .inr (0, 3) else .inl 99)) else (bif Nat.blt k 58 then (bif Nat.beq k 57 then .inr (0, 2058) else .inl 99) else (bif Nat.beq k 58 then .inr (0, 6) else .inl 99))) else (bif Nat.blt k 61 then (bif Nat.blt k 60 then (bif Nat.beq k 59 then .inr (0, 8) else .inl 99) else (bif Nat.beq k 60 then .inr (0, 8) else .inl 99)) else (bif Nat.blt k 62 then (bif Nat.beq k 61 then .inr (0, 42) else .inl 99) else (bif Nat.beq k 62 then .inr (0, 42) else .inl 99))))))
def mj_KS (L : Nat) : Nat × (Nat → mj_K) × (Nat × Nat) × (Nat × Nat) := (62, mj_KK L, (0, 0), (0, 0))
def mj_p1 (i : Nat) : Option Nat := bif Nat.blt i 5 then (bif Nat.blt i 2 then (bif Nat.blt i 1 then (bif Nat.beq i 0 then some 2 else none) else (bif Nat.beq i 1 then some 10 else none)) else (bif Nat.blt i 3 then (bif Nat.beq i 2 then some 18 else none) else (bif Nat.blt i 4 then (bif Nat.beq i 3 then some 20 else none) else (bif Nat.beq i 4 then some 25 else none)))) else (bif Nat.blt i 8 then (bif Nat.blt i 6 then (bif Nat.beq i 5 then some 28 else none) else (bif Nat.blt i 7 then (bif Nat.beq i 6 then some 29 else none) else (bif Nat.beq i 7 then some 30 else none))) else (bif Nat.blt i 9 then (bif Nat.beq i 8 then some 31 else none) else (bif Nat.blt i 10 then (bif Nat.beq i 9 then some 32 else none) else (bif Nat.beq i 10 then some 33 else none))))
def mj_p2 (i : Nat) : Option Nat := bif Nat.blt i 4 then (bif Nat.blt i 3 then (bif Nat.beq i 2 then some 3 else none) else (bif Nat.beq i 3 then some 4 else none)) else (bif Nat.blt i 5 then (bif Nat.beq i 4 then some 5 else none) else (bif Nat.beq i 5 then some 6 else none))
def mj_p6 (i : Nat) : Option Nat := bif Nat.blt i 1 then (bif Nat.beq i 0 then some 7 else none) else (bif Nat.blt i 2 then (bif Nat.beq i 1 then some 8 else none) else (bif Nat.beq i 2 then some 9 else none))
def mj_p10 (i : Nat) : Option Nat := bif Nat.blt i 4 then (bif Nat.blt i 3 then (bif Nat.beq i 2 then some 11 else none) else (bif Nat.beq i 3 then some 12 else none)) else (bif Nat.blt i 5 then (bif Nat.beq i 4 then some 13 else none) else (bif Nat.beq i 5 then some 14 else none))
def mj_p14 (i : Nat) : Option Nat := bif Nat.blt i 1 then (bif Nat.beq i 0 then some 15 else none) else (bif Nat.blt i 2 then (bif Nat.beq i 1 then some 16 else none) else (bif Nat.beq i 2 then some 17 else none))
def mj_p18 (i : Nat) : Option Nat := bif Nat.beq i 0 then some 19 else none
def mj_p20 (i : Nat) : Option Nat := bif Nat.blt i 2 then (bif Nat.blt i 1 then (bif Nat.beq i 0 then some 21 else none) else (bif Nat.beq i 1 then some 22 else none)) else (bif Nat.blt i 3 then (bif Nat.beq i 2 then some 23 else none) else (bif Nat.beq i 3 then some 24 else none))
def mj_p25 (i : Nat) : Option Nat := bif Nat.blt i 3 then (bif Nat.beq i 2 then some 26 else none) else (bif Nat.beq i 3 then some 27 else none)
def mj_p28 (i : Nat) : Option Nat := bif Nat.blt i 2 then (bif Nat.blt i 1 then (bif Nat.beq i 0 then some 34 else none) else (bif Nat.beq i 1 then some 36 else none)) else (bif Nat.blt i 3 then (bif Nat.beq i 2 then some 38 else none) else (bif Nat.beq i 3 then some 40 else none))
def mj_p34 (i : Nat) : Option Nat := bif Nat.beq i 3 then some 35 else none
def mj_p36 (i : Nat) : Option Nat := bif Nat.beq i 3 then some 37 else none
def mj_p38 (i : Nat) : Option Nat := bif Nat.beq i 3 then some 39 else none
def mj_p40 (i : Nat) : Option Nat := bif Nat.beq i 3 then some 41 else none
def mj_p42 (i : Nat) : Option Nat := bif Nat.blt i 17 then (bif Nat.blt i 9 then (bif Nat.blt i 4 then (bif Nat.blt i 3 then (bif Nat.beq i 2 then some 43 else none) else (bif Nat.beq i 3 then some 44 else none)) else (bif Nat.blt i 7 then (bif Nat.beq i 4 then some 45 else none) else (bif Nat.blt i 8 then (bif Nat.beq i 7 then some 46 else none) else (bif Nat.beq i 8 then some 47 else none)))) else (bif Nat.blt i 14 then (bif Nat.blt i 10 then (bif Nat.beq i 9 then some 48 else none) else (bif Nat.beq i 10 then some 49 else none)) else (bif Nat.blt i 15 then (bif Nat.beq i 14 then some 50 else none) else (bif Nat.blt i 16 then (bif Nat.beq i 15 then some 51 else none) else (bif Nat.beq i 16 then some 52 else none))))) else (bif Nat.blt i 24 then (bif Nat.blt i 20 then (bif Nat.blt i 18 then (bif Nat.beq i 17 then some 53 else none) else (bif Nat.beq i 18 then some 54 else none)) else (bif Nat.blt i 21 then (bif Nat.beq i 20 then some 55 else none) else (bif Nat.blt i 22 then (bif Nat.beq i 21 then some 56 else none) else (bif Nat.beq i 22 then some 57 else none)))) else (bif Nat.blt i 27 then (bif Nat.blt i 26 then (bif Nat.beq i 24 then some 58 else none) else (bif Nat.beq i 26 then some 59 else none)) else (bif Nat.blt i 28 then (bif Nat.beq i 27 then some 60 else none) else (bif Nat.blt i 29 then (bif Nat.beq i 28 then some 61 else none) else (bif Nat.beq i 29 then some 62 else none)))))
def mj_P0r (k i : Nat) : Option Nat := bif Nat.blt k 25 then (bif Nat.blt k 10 then (bif Nat.blt k 2 then (bif Nat.beq k 1 then mj_p1 i else none) else (bif Nat.blt k 6 then (bif Nat.beq k 2 then mj_p2 i else none) else (bif Nat.beq k 6 then mj_p6 i else none))) else (bif Nat.blt k 18 then (bif Nat.blt k 14 then (bif Nat.beq k 10 then mj_p10 i else none) else (bif Nat.beq k 14 then mj_p14 i else none)) else (bif Nat.blt k 20 then (bif Nat.beq k 18 then mj_p18 i else none) else (bif Nat.beq k 20 then mj_p20 i else none)))) else (bif Nat.blt k 36 then (bif Nat.blt k 28 then (bif Nat.beq k 25 then mj_p25 i else none) else (bif Nat.blt k 34 then (bif Nat.beq k 28 then mj_p28 i else none) else (bif Nat.beq k 34 then mj_p34 i else none))) else (bif Nat.blt k 40 then (bif Nat.blt k 38 then (bif Nat.beq k 36 then mj_p36 i else none) else (bif Nat.beq k 38 then mj_p38 i else none)) else (bif Nat.blt k 42 then (bif Nat.beq k 40 then mj_p40 i else none) else (bif Nat.beq k 42 then mj_p42 i else none))))
def mj_P0 : mj_P := fun k i => mj_P0r k i.toBitVec.toNat
def mj_PP (c d r : Nat) : mj_P := mj_upP (mj_upP (mj_upP mj_P0 1 0 (some c)) 1 1 (some d)) 18 0 (some r)
def bI (x : Bool) : Int32 := bif x then 1 else 0
theorem bI_01 (x : Bool) : bI x = 0 ∨ bI x = 1 := by cases x <;> first | exact Or.inl rfl | exact Or.inr rfl
theorem bI_0 {x : Bool} : bI x = 0 ↔ x = false := by cases x <;> simp [bI]
theorem bI_1 {x : Bool} (h : ¬ bI x = 0) : x = true := by cases x with | true => rfl | false => exact absurd rfl h
theorem mj_Dec_of {M : mj_Md} (h : mj_decc M = true) : mj_Dec M := by
  intro pc q hq
  unfold mj_tab at hq
  obtain ⟨h1, h2⟩ := mj_if hq
  rw [Nat.blt_eq] at h1
  have h3 := mj_range h h1
  unfold mj_decp at h3
  rw [h2] at h3
  simp only at h3
  split at h3
  · next r hr => rw [hr, of_decide_eq_true h3]
  · cases h3
/-- an answer, and the cells behind it -/
def mj_E (L : Nat) (v : Option Value) (I : mj_I) (P : mj_P) : Option Value → mj_S → Prop := fun r σ' => r = v ∧ σ' = (mj_KS L, I, P)
/-- an answer, and what is said of the cells behind it -/
def mj_EI (L : Nat) (P : mj_P) (Φ : Option Value → mj_I → Prop) : Option Value → mj_S → Prop := fun r σ' => ∃ I' : mj_I, σ' = (mj_KS L, I', P) ∧ Φ r I'
section RC
variable {l : Launch} {b base : Nat} {D : va_G} {z : mj_K × (Int32 → Int32)} {M : mj_Md} {pc : Nat} {L st : List Value} {σ : mj_S} {Q : Option Value → mj_S → Prop}
theorem R_c0 {idx mid kind N : Nat} {M' : mj_Md} {As rest L0 : List Value} {I : mj_I} {P : mj_P} {Q' : Option Value → mj_S → Prop} (ht : mj_tab M pc = some (mj_ins kind idx, 3)) (hm : mj_pm M.1 idx = some (mid, kind)) (hM : mj_M mid = M') (hmc : mj_mc mid = true) (hdec : mj_Dec M') (hst : st = As.reverse ++ rest)
    (hchk : mj_cchk M M' (mj_Mn mid) kind As rest (mj_KS N, I, P) = true) (hent : mj_ent As M'.2.2.2.1 = L0) (hb : mj_bc M' = 0) (hs : mj_bs M' = 0) (hQ : ∀ r σ1, Q' r σ1 → σ1.1 = mj_KS N) (hσ : σ = (mj_KS N, I, P))
    (hc : mj_Rn l b base D z M' 0 L0 [] (mj_KS N, I, P) Q') (kk : ∀ r σ1, Q' r σ1 → mj_Rn l b base D z M (pc + 3) L (r.toList ++ rest) σ1 Q) : mj_Rn l b base D z M pc L st σ Q := by
  subst hM
  subst hent
  subst hσ
  have e1 : mj_sub (mj_KS N, I, P) (mj_M mid) = (mj_KS N, I, P) := by
    unfold mj_sub
    rw [hb, hs]
    rfl
  refine R_call ht hm hmc hdec hst hchk (fun r σ1 hq => ?_) (by rw [e1]; exact hc) (fun r σ1 hq => ?_)
  · rw [hQ r σ1 hq, hb, hs]
    exact ⟨rfl, Nat.le_refl _, Nat.le_refl _⟩
  · have e2 : mj_back (mj_KS N, I, P) σ1 (mj_M mid) = σ1 := by
      unfold mj_back
      rw [hb, hs]
      have := hQ r σ1 hq
      obtain ⟨k1, k2⟩ := σ1
      cases this
      rfl
    rw [e2]
    exact kk r σ1 hq
/-- a call with a known answer -/
theorem R_ce {idx mid kind N : Nat} {M' : mj_Md} {As rest L0 : List Value} {I I' : mj_I} {P P' : mj_P} {v : Option Value} (ht : mj_tab M pc = some (mj_ins kind idx, 3)) (hm : mj_pm M.1 idx = some (mid, kind)) (hM : mj_M mid = M') (hmc : mj_mc mid = true) (hdec : mj_Dec M') (hst : st = As.reverse ++ rest)
    (hchk : mj_cchk M M' (mj_Mn mid) kind As rest (mj_KS N, I, P) = true) (hent : mj_ent As M'.2.2.2.1 = L0) (hb : mj_bc M' = 0) (hs : mj_bs M' = 0) (hσ : σ = (mj_KS N, I, P))
    (hc : mj_Rn l b base D z M' 0 L0 [] (mj_KS N, I, P) (mj_E N v I' P')) (kk : mj_Rn l b base D z M (pc + 3) L (v.toList ++ rest) (mj_KS N, I', P') Q) : mj_Rn l b base D z M pc L st σ Q := by
  refine R_c0 ht hm hM hmc hdec hst hchk hent hb hs (fun r σ1 hq => ?_) hσ hc (fun r σ1 hq => ?_)
  · obtain ⟨-, rfl⟩ := hq
    rfl
  · obtain ⟨rfl, rfl⟩ := hq
    exact kk
/-- a call of which something is known -/
theorem R_ci {idx mid kind N : Nat} {M' : mj_Md} {As rest L0 : List Value} {I : mj_I} {P P' : mj_P} {Φ : Option Value → mj_I → Prop} (ht : mj_tab M pc = some (mj_ins kind idx, 3)) (hm : mj_pm M.1 idx = some (mid, kind)) (hM : mj_M mid = M') (hmc : mj_mc mid = true) (hdec : mj_Dec M') (hst : st = As.reverse ++ rest)
    (hchk : mj_cchk M M' (mj_Mn mid) kind As rest (mj_KS N, I, P) = true) (hent : mj_ent As M'.2.2.2.1 = L0) (hb : mj_bc M' = 0) (hs : mj_bs M' = 0) (hσ : σ = (mj_KS N, I, P))
    (hc : mj_Rn l b base D z M' 0 L0 [] (mj_KS N, I, P) (mj_EI N P' Φ)) (kk : ∀ r I', Φ r I' → mj_Rn l b base D z M (pc + 3) L (r.toList ++ rest) (mj_KS N, I', P') Q) : mj_Rn l b base D z M pc L st σ Q := by
  refine R_c0 ht hm hM hmc hdec hst hchk hent hb hs (fun r σ1 hq => ?_) hσ hc (fun r σ1 hq => ?_)
  · obtain ⟨I', rfl, -⟩ := hq
    rfl
  · obtain ⟨I', rfl, hq⟩ := hq
    exact kk r I' hq
end RC
theorem mj_in_d {i : Int32} {n : Nat} (h : decide (0 ≤ i.toInt ∧ i.toInt < (n : Int)) = true) : mj_in i n := (of_decide_eq_true h : 0 ≤ i.toInt ∧ i.toInt < (n : Int))
theorem mj_leaf {N : Nat} {r v : Option Value} {I : mj_I} {P : mj_P} {σ : mj_S} (h1 : r = v) (h2 : σ = (mj_KS N, I, P)) : mj_E N v I P r σ := ⟨h1, h2⟩
section RR
variable {l : Launch} {b base : Nat} {D : va_G} {z : mj_K × (Int32 → Int32)} {M : mj_Md} {pc : Nat} {L : List Value} {σ : mj_S} {Q : Option Value → mj_S → Prop}
theorem R_ri {v : Int32} (h : mj_tab M pc = some (.ireturn, 1)) (hr : M.2.2.2.2.1 = some .int) (hq : Q (some (.int v)) σ) : mj_Rn l b base D z M pc L [.int v] σ Q := R_ret (r := some (.int v)) (show mj_tab M pc = some (.ireturn, 1) ∧ _ from ⟨h, Or.inl hr⟩) hq rfl
theorem R_rb {v : Int32} (h : mj_tab M pc = some (.ireturn, 1)) (hr : M.2.2.2.2.1 = some .boolean) (hv : v = 0 ∨ v = 1) (hq : Q (some (.int v)) σ) : mj_Rn l b base D z M pc L [.int v] σ Q := R_ret (r := some (.int v)) (show mj_tab M pc = some (.ireturn, 1) ∧ _ from ⟨h, Or.inr ⟨hr, hv⟩⟩) hq rfl
theorem R_rl {v : Int64} (h : mj_tab M pc = some (.lreturn, 1)) (hr : M.2.2.2.2.1 = some .long) (hq : Q (some (.long v)) σ) : mj_Rn l b base D z M pc L [.long v] σ Q := R_ret (r := some (.long v)) (show mj_tab M pc = some (.lreturn, 1) ∧ _ from ⟨h, hr⟩) hq rfl
theorem R_rv (h : mj_tab M pc = some (.return_, 1)) (hr : M.2.2.2.2.1 = none) (hq : Q none σ) : mj_Rn l b base D z M pc L [] σ Q := R_ret (r := none) (show mj_tab M pc = some (.return_, 1) ∧ _ from ⟨h, hr⟩) hq rfl
end RR
theorem mj_in_nI {j n : Nat} (h : j < n) (hn : n < 2 ^ 31) : mj_in (nI j) n := by
  have h1 : (nI j).toInt = (j : Int) := nI_toInt (by omega)
  exact (show 0 ≤ (nI j).toInt ∧ (nI j).toInt < (n : Int) from ⟨by omega, by omega⟩)
theorem bI_n {x : Bool} (h : x = true) : ¬ bI x = 0 := by rw [h]; decide
theorem mj_tn0 : (0 : Int32).toNatClampNeg = 0 := by decide
theorem mj_tn1 : (1 : Int32).toNatClampNeg = 1 := by decide
theorem mj_tn2 : (2 : Int32).toNatClampNeg = 2 := by decide
theorem mj_tn3 : (3 : Int32).toNatClampNeg = 3 := by decide
section RSW
variable {l : Launch} {b base : Nat} {D : va_G} {z : mj_K × (Int32 → Int32)} {M : mj_Md} {pc : Nat} {L rest : List Value} {σ : mj_S} {Q : Option Value → mj_S → Prop}
theorem R_stk {x v : Int32} (h : x = v) (k : mj_Rn l b base D z M pc L (.int v :: rest) σ Q) : mj_Rn l b base D z M pc L (.int x :: rest) σ Q := by rw [h]; exact k
theorem R_tsd {x : Int32} {d lo hi : Int} {offs : Array Int} {n t : Nat} (ht : mj_tab M pc = some (.tableswitch d lo hi offs, n)) (h : x.toInt < lo ∨ hi < x.toInt) (hg : mj_tg pc d = some t) (k : mj_Rn l b base D z M t L rest σ Q) : mj_Rn l b base D z M pc L (.int x :: rest) σ Q := by
  refine R_seg (φ := []) (pc' := t) (L' := L) (st' := rest) (σ' := σ) 1 ?_ trivial k
  have hb : (decide (x.toInt < lo) || decide (hi < x.toInt)) = true := by
    rw [Bool.or_eq_true, decide_eq_true_eq, decide_eq_true_eq]
    exact h
  simp only [mj_run, mj_s, ht, mj_x, mj_tsw, hb, cond_true, hg]
  rfl
theorem R_lsd {x : Int32} {d : Int} {ps : Array (Int × Int)} {n t : Nat} (ht : mj_tab M pc = some (.lookupswitch d ps, n)) (hs : (ps.toList.zip (ps.toList.drop 1)).all (fun (a, next) => a.1 < next.1) = true) (h : Op.lookupswitch.offset ps.toList d x.toInt = d) (hg : mj_tg pc d = some t) (k : mj_Rn l b base D z M t L rest σ Q) : mj_Rn l b base D z M pc L (.int x :: rest) σ Q := by
  refine R_seg (φ := []) (pc' := t) (L' := L) (st' := rest) (σ' := σ) 1 ?_ trivial k
  simp only [mj_run, mj_s, ht, mj_x, mj_lsw, hs, cond_true, h, hg]
  rfl
end RSW
theorem sp_has_spec {n s : Int32} (h : (if s < 0 then false else if s < n then true else false) = true) : 0 ≤ s.toInt ∧ s.toInt < n.toInt := by
  by_cases h1 : s < 0
  · rw [if_pos h1] at h; cases h
  · rw [if_neg h1] at h
    by_cases h2 : s < n
    · have h3 := Int32.not_lt.mp h1
      rw [Int32.le_iff_toInt_le, Int32.toInt_zero] at h3
      exact ⟨h3, Int32.lt_iff_toInt_lt.mp h2⟩
    · rw [if_neg h2] at h; cases h
theorem mj_i0 {x : Int32} (h : ¬ x < 0) : 0 ≤ x.toInt := by
  have h3 := Int32.not_lt.mp h
  rw [Int32.le_iff_toInt_le, Int32.toInt_zero] at h3
  exact h3
theorem mj_iL {x y : Int32} (h : x < y) : x.toInt < y.toInt := Int32.lt_iff_toInt_lt.mp h
theorem mj_iN {x y : Int32} (h : ¬ x < y) : y.toInt ≤ x.toInt := Int32.le_iff_toInt_le.mp (Int32.not_lt.mp h)
theorem mj_iE {x y : Int32} (h : ¬ x = y) : x.toInt ≠ y.toInt := fun q => h (Int32.toInt_inj.mp q)
theorem mj_ofI {x y : Int32} (h : x.toInt = y.toInt) : x = y := Int32.toInt_inj.mp h
theorem mj_c3 {q : Int32} (h0 : 0 ≤ q.toInt) (h : q.toInt < 3) : q = 0 ∨ q = 1 ∨ q = 2 := by
  have : q.toInt = 0 ∨ q.toInt = 1 ∨ q.toInt = 2 := by omega
  rcases this with h | h | h
  · exact Or.inl (mj_ofI (h.trans (by decide)))
  · exact Or.inr (Or.inl (mj_ofI (h.trans (by decide))))
  · exact Or.inr (Or.inr (mj_ofI (h.trans (by decide))))
theorem mj_c4 {q : Int32} (h0 : 0 ≤ q.toInt) (h : q.toInt < 4) : q = 0 ∨ q = 1 ∨ q = 2 ∨ q = 3 := by
  have : q.toInt = 0 ∨ q.toInt = 1 ∨ q.toInt = 2 ∨ q.toInt = 3 := by omega
  rcases this with h | h | h | h
  · exact Or.inl (mj_ofI (h.trans (by decide)))
  · exact Or.inr (Or.inl (mj_ofI (h.trans (by decide))))
  · exact Or.inr (Or.inr (Or.inl (mj_ofI (h.trans (by decide)))))
  · exact Or.inr (Or.inr (Or.inr (mj_ofI (h.trans (by decide)))))
theorem mj_bmod {x : Int} (h1 : -2147483648 ≤ x) (h2 : x < 2147483648) : x.bmod (2 ^ 32) = x := by
  unfold Int.bmod
  have e : ((2 ^ 32 : Nat) : Int) = 4294967296 := rfl
  simp only [e]
  split <;> omega
theorem mj_iadd {x y : Int32} (h1 : -2147483648 ≤ x.toInt + y.toInt) (h2 : x.toInt + y.toInt < 2147483648) : (x + y).toInt = x.toInt + y.toInt := by
  rw [Int32.toInt_add]
  exact mj_bmod h1 h2
theorem mj_isub {x y : Int32} (h1 : -2147483648 ≤ x.toInt - y.toInt) (h2 : x.toInt - y.toInt < 2147483648) : (x - y).toInt = x.toInt - y.toInt := by
  rw [Int32.toInt_sub]
  exact mj_bmod h1 h2
theorem mj_imul {x y : Int32} (h1 : -2147483648 ≤ x.toInt * y.toInt) (h2 : x.toInt * y.toInt < 2147483648) : (x * y).toInt = x.toInt * y.toInt := by
  rw [Int32.toInt_mul]
  exact mj_bmod h1 h2

theorem mj_dc0 : mj_Dec mj_m_X0_init := mj_Dec_of mj_dec0
theorem mj_dc1 : mj_Dec mj_m_X0_go := mj_Dec_of mj_dec1
theorem mj_dc2 : mj_Dec mj_m_X0_goOneDay := mj_Dec_of mj_dec2
theorem mj_dc3 : mj_Dec mj_m_X0_goOn := mj_Dec_of mj_dec3
theorem mj_dc4 : mj_Dec mj_m_X0_behindDay := mj_Dec_of mj_dec4
theorem mj_dc5 : mj_Dec mj_m_X0_count := mj_Dec_of mj_dec5
theorem mj_dc6 : mj_Dec mj_m_X1_init := mj_Dec_of mj_dec6
theorem mj_dc7 : mj_Dec mj_m_X1_hasStreet := mj_Dec_of mj_dec7
theorem mj_dc8 : mj_Dec mj_m_X1_hasPlant := mj_Dec_of mj_dec8
theorem mj_dc9 : mj_Dec mj_m_X1_hasCorner := mj_Dec_of mj_dec9
theorem mj_dc10 : mj_Dec mj_m_X1_canStep := mj_Dec_of mj_dec10
theorem mj_dc11 : mj_Dec mj_m_X1_setCorner := mj_Dec_of mj_dec11
theorem mj_dc12 : mj_Dec mj_m_X1_countCorners := mj_Dec_of mj_dec12
theorem mj_dc13 : mj_Dec mj_m_X1_coldsOfStep := mj_Dec_of mj_dec13
theorem mj_dc14 : mj_Dec mj_m_X1_grown := mj_Dec_of mj_dec14
theorem mj_dc15 : mj_Dec mj_m_X1_isWanted := mj_Dec_of mj_dec15
theorem mj_dc16 : mj_Dec mj_m_X2_init := mj_Dec_of mj_dec16
theorem mj_dc17 : mj_Dec mj_m_X2_begin := mj_Dec_of mj_dec17
theorem mj_dc18 : mj_Dec mj_m_X2_readsCity := mj_Dec_of mj_dec18
theorem mj_dc19 : mj_Dec mj_m_X2_readsStreets := mj_Dec_of mj_dec19
theorem mj_dc20 : mj_Dec mj_m_X2_readsSeasons := mj_Dec_of mj_dec20
theorem mj_dc21 : mj_Dec mj_m_X2_readsCorners := mj_Dec_of mj_dec21
theorem mj_dc22 : mj_Dec mj_m_X2_readsPlants := mj_Dec_of mj_dec22
theorem mj_dc23 : mj_Dec mj_m_X2_takeKind := mj_Dec_of mj_dec23
theorem mj_dc24 : mj_Dec mj_m_X2_sees := mj_Dec_of mj_dec24
theorem mj_dc25 : mj_Dec mj_m_X2_takes := mj_Dec_of mj_dec25
theorem mj_dc26 : mj_Dec mj_m_X2_takeDigit := mj_Dec_of mj_dec26
theorem mj_dc27 : mj_Dec mj_m_X3_init := mj_Dec_of mj_dec27
theorem mj_dc28 : mj_Dec mj_m_X3_quickestDays := mj_Dec_of mj_dec28
theorem mj_dc29 : mj_Dec mj_m_X3_startOf := mj_Dec_of mj_dec29
theorem mj_dc30 : mj_Dec mj_m_X3_goOn := mj_Dec_of mj_dec30
theorem mj_dc31 : mj_Dec mj_m_X3_behindDay := mj_Dec_of mj_dec31
theorem mj_dc32 : mj_Dec mj_m_X3_come := mj_Dec_of mj_dec32
theorem mj_dc33 : mj_Dec mj_m_X3_tellFound := mj_Dec_of mj_dec33
theorem mj_dc34 : mj_Dec mj_m_X4_init := mj_Dec_of mj_dec34
theorem mj_dc35 : mj_Dec mj_m_X4_renew := mj_Dec_of mj_dec35
theorem mj_dc36 : mj_Dec mj_m_X4_hasCells := mj_Dec_of mj_dec36
theorem mj_dc37 : mj_Dec mj_m_X4_faultOfTaking := mj_Dec_of mj_dec37
theorem mj_dc38 : mj_Dec mj_m_X4_cut := mj_Dec_of mj_dec38
theorem mj_dc39 : mj_Dec mj_m_X5_init := mj_Dec_of mj_dec39
theorem mj_dc40 : mj_Dec mj_m_X5_city := mj_Dec_of mj_dec40
theorem mj_dc41 : mj_Dec mj_m_X5_ofStreet := mj_Dec_of mj_dec41
theorem mj_dc42 : mj_Dec mj_m_X5_ofPlant := mj_Dec_of mj_dec42
theorem mj_dc43 : mj_Dec mj_m_X5_let := mj_Dec_of mj_dec43
theorem mj_dc44 : mj_Dec mj_m_X5_corner := mj_Dec_of mj_dec44
theorem mj_dc45 : mj_Dec mj_m_X5_route := mj_Dec_of mj_dec45
theorem mj_dc46 : mj_Dec mj_m_X5_isRouteLength := mj_Dec_of mj_dec46
theorem mj_dc47 : mj_Dec mj_m_X5_isRouteQuestion := mj_Dec_of mj_dec47
theorem mj_dc48 : mj_Dec mj_m_X5_takeWay := mj_Dec_of mj_dec48
theorem mj_dc49 : mj_Dec mj_m_X5_ofWay := mj_Dec_of mj_dec49
theorem mj_dc50 : mj_Dec mj_m_X5_firstWrong := mj_Dec_of mj_dec50
theorem mj_dc51 : mj_Dec mj_m_X5_ripeAtEnd := mj_Dec_of mj_dec51
theorem mj_dc52 : mj_Dec mj_m_X5_coldsOfWay := mj_Dec_of mj_dec52
theorem mj_dc53 : mj_Dec mj_m_X5_growthAtEnd := mj_Dec_of mj_dec53
theorem mj_dc54 : mj_Dec mj_m_X5_ripeDay := mj_Dec_of mj_dec54
theorem mj_dc55 : mj_Dec mj_m_X5_quickest := mj_Dec_of mj_dec55
theorem mj_dc56 : mj_Dec mj_m_X5_mild := mj_Dec_of mj_dec56
theorem mj_dc57 : mj_Dec mj_m_X5_best := mj_Dec_of mj_dec57
theorem mj_dc58 : mj_Dec mj_m_X5_mostColds := mj_Dec_of mj_dec58
theorem mj_dc59 : mj_Dec mj_m_X5_spreadColds := mj_Dec_of mj_dec59
theorem mj_dc60 : mj_Dec mj_m_X5_spreadColdsByCorners := mj_Dec_of mj_dec60
theorem mj_dc61 : mj_Dec mj_m_X5_reading := mj_Dec_of mj_dec61
theorem mj_dc62 : mj_Dec mj_m_X5_back := mj_Dec_of mj_dec62
theorem mj_dc63 : mj_Dec mj_m_X5_seasons := mj_Dec_of mj_dec63
theorem mj_dc64 : mj_Dec mj_m_X5_kinds := mj_Dec_of mj_dec64
theorem mj_dc65 : mj_Dec mj_m_X5_wishes := mj_Dec_of mj_dec65
theorem mj_dc66 : mj_Dec mj_m_X5_odds := mj_Dec_of mj_dec66
theorem mj_dc67 : mj_Dec mj_m_X5_takeReadWay := mj_Dec_of mj_dec67
theorem mj_dc68 : mj_Dec mj_m_X5_fitting := mj_Dec_of mj_dec68
theorem mj_dc69 : mj_Dec mj_m_X5_readingsAreSo := mj_Dec_of mj_dec69
theorem mj_dc70 : mj_Dec mj_m_X5_greatestDivisor := mj_Dec_of mj_dec70
theorem mj_dc71 : mj_Dec mj_m_X5_sheet := mj_Dec_of mj_dec71
theorem mj_dc72 : mj_Dec mj_m_X5_lose := mj_Dec_of mj_dec72
theorem mj_dc73 : mj_Dec mj_m_X5_put := mj_Dec_of mj_dec73
theorem mj_dc74 : mj_Dec mj_m_X5_cell := mj_Dec_of mj_dec74
theorem mj_dc75 : mj_Dec mj_m_X5_copy := mj_Dec_of mj_dec75
theorem mj_dc76 : mj_Dec mj_m_X5_tell := mj_Dec_of mj_dec76
theorem mj_dc77 : mj_Dec mj_m_X5_label := mj_Dec_of mj_dec77
theorem mj_dc78 : mj_Dec mj_m_X5_as := mj_Dec_of mj_dec78
theorem mj_dc79 : mj_Dec mj_m_X5_trace := mj_Dec_of mj_dec79
theorem mj_dc80 : mj_Dec mj_m_X5_fault := mj_Dec_of mj_dec80
theorem mj_dc81 : mj_Dec mj_m_X5_many := mj_Dec_of mj_dec81
theorem mj_dc82 : mj_Dec mj_m_X5_tellPlant := mj_Dec_of mj_dec82
theorem mj_dc83 : mj_Dec mj_m_X5_tellShrub := mj_Dec_of mj_dec83
theorem mj_dc84 : mj_Dec mj_m_X5_tellWeed := mj_Dec_of mj_dec84
theorem mj_dc85 : mj_Dec mj_m_X5_labelLent := mj_Dec_of mj_dec85
theorem mj_dc86 : mj_Dec mj_m_X5_labelWeed := mj_Dec_of mj_dec86
theorem mj_dc87 : mj_Dec mj_m_X5_leave := mj_Dec_of mj_dec87
theorem mj_dc88 : mj_Dec mj_m_X5_isSheet := mj_Dec_of mj_dec88
theorem mj_dc89 : mj_Dec mj_m_X5_isLane := mj_Dec_of mj_dec89
theorem mj_dc90 : mj_Dec mj_m_X5_refuse := mj_Dec_of mj_dec90
theorem mj_dc91 : mj_Dec mj_m_X5_comeTo := mj_Dec_of mj_dec91
theorem mj_dc92 : mj_Dec mj_m_X6_init := mj_Dec_of mj_dec92
theorem mj_dc93 : mj_Dec mj_m_X6_fails := mj_Dec_of mj_dec93
theorem mj_dc94 : mj_Dec mj_m_X6_lost := mj_Dec_of mj_dec94
theorem mj_dc95 : mj_Dec mj_m_X6_within := mj_Dec_of mj_dec95
theorem mj_dc96 : mj_Dec mj_m_X6_isSheet := mj_Dec_of mj_dec96
theorem mj_dc97 : mj_Dec mj_m_X6_isSort := mj_Dec_of mj_dec97
theorem mj_dc98 : mj_Dec mj_m_X6_against := mj_Dec_of mj_dec98
theorem mj_dc99 : mj_Dec mj_m_X6_isStreet := mj_Dec_of mj_dec99
theorem mj_dc100 : mj_Dec mj_m_X6_isPlant := mj_Dec_of mj_dec100
theorem mj_dc101 : mj_Dec mj_m_X6_isSeason := mj_Dec_of mj_dec101
theorem mj_dc102 : mj_Dec mj_m_X6_digit := mj_Dec_of mj_dec102
theorem mj_dc103 : mj_Dec mj_m_X6_isSign := mj_Dec_of mj_dec103
theorem mj_dc104 : mj_Dec mj_m_X6_city := mj_Dec_of mj_dec104
theorem mj_dc105 : mj_Dec mj_m_X6_takeCity := mj_Dec_of mj_dec105
theorem mj_dc106 : mj_Dec mj_m_X6_readCity := mj_Dec_of mj_dec106
theorem mj_dc107 : mj_Dec mj_m_X6_readCorner := mj_Dec_of mj_dec107
theorem mj_dc108 : mj_Dec mj_m_X6_readPlant := mj_Dec_of mj_dec108
theorem mj_dc109 : mj_Dec mj_m_X6_ofStreet := mj_Dec_of mj_dec109
theorem mj_dc110 : mj_Dec mj_m_X6_ofPlant := mj_Dec_of mj_dec110
theorem mj_dc111 : mj_Dec mj_m_X6_let := mj_Dec_of mj_dec111
theorem mj_dc112 : mj_Dec mj_m_X6_corner := mj_Dec_of mj_dec112
theorem mj_dc113 : mj_Dec mj_m_X6_mayGo := mj_Dec_of mj_dec113
theorem mj_dc114 : mj_Dec mj_m_X6_colds := mj_Dec_of mj_dec114
theorem mj_dc115 : mj_Dec mj_m_X6_onBy := mj_Dec_of mj_dec115
theorem mj_dc116 : mj_Dec mj_m_X6_isRow := mj_Dec_of mj_dec116
theorem mj_dc117 : mj_Dec mj_m_X6_layRoute := mj_Dec_of mj_dec117
theorem mj_dc118 : mj_Dec mj_m_X6_goRoute := mj_Dec_of mj_dec118
theorem mj_dc119 : mj_Dec mj_m_X6_wrongDay := mj_Dec_of mj_dec119
theorem mj_dc120 : mj_Dec mj_m_X6_route := mj_Dec_of mj_dec120
theorem mj_dc121 : mj_Dec mj_m_X6_tellRoute := mj_Dec_of mj_dec121
theorem mj_dc122 : mj_Dec mj_m_X6_behind := mj_Dec_of mj_dec122
theorem mj_dc123 : mj_Dec mj_m_X6_bestOf := mj_Dec_of mj_dec123
theorem mj_dc124 : mj_Dec mj_m_X6_isState := mj_Dec_of mj_dec124
theorem mj_dc125 : mj_Dec mj_m_X6_findDay := mj_Dec_of mj_dec125
theorem mj_dc126 : mj_Dec mj_m_X6_findToGo := mj_Dec_of mj_dec126
theorem mj_dc127 : mj_Dec mj_m_X6_firstOf := mj_Dec_of mj_dec127
theorem mj_dc128 : mj_Dec mj_m_X6_quickest := mj_Dec_of mj_dec128
theorem mj_dc129 : mj_Dec mj_m_X6_nextBest := mj_Dec_of mj_dec129
theorem mj_dc130 : mj_Dec mj_m_X6_findColds := mj_Dec_of mj_dec130
theorem mj_dc131 : mj_Dec mj_m_X6_mild := mj_Dec_of mj_dec131
theorem mj_dc132 : mj_Dec mj_m_X6_mostFrom := mj_Dec_of mj_dec132
theorem mj_dc133 : mj_Dec mj_m_X6_best := mj_Dec_of mj_dec133
theorem mj_dc134 : mj_Dec mj_m_X6_reading := mj_Dec_of mj_dec134
theorem mj_dc135 : mj_Dec mj_m_X6_back := mj_Dec_of mj_dec135
theorem mj_dc136 : mj_Dec mj_m_X6_areSo := mj_Dec_of mj_dec136
theorem mj_dc137 : mj_Dec mj_m_X6_lay := mj_Dec_of mj_dec137
theorem mj_dc138 : mj_Dec mj_m_X6_seasons := mj_Dec_of mj_dec138
theorem mj_dc139 : mj_Dec mj_m_X6_kinds := mj_Dec_of mj_dec139
theorem mj_dc140 : mj_Dec mj_m_X6_wishes := mj_Dec_of mj_dec140
theorem mj_dc141 : mj_Dec mj_m_X6_inLeastTerms := mj_Dec_of mj_dec141
theorem mj_dc142 : mj_Dec mj_m_X6_goRows := mj_Dec_of mj_dec142
theorem mj_dc143 : mj_Dec mj_m_X6_odds := mj_Dec_of mj_dec143
theorem mj_dc144 : mj_Dec mj_m_X6_sheet := mj_Dec_of mj_dec144
theorem mj_dc145 : mj_Dec mj_m_X6_lose := mj_Dec_of mj_dec145
theorem mj_dc146 : mj_Dec mj_m_X6_put := mj_Dec_of mj_dec146
theorem mj_dc147 : mj_Dec mj_m_X6_cell := mj_Dec_of mj_dec147
theorem mj_dc148 : mj_Dec mj_m_X6_copy := mj_Dec_of mj_dec148
theorem mj_dc149 : mj_Dec mj_m_X6_begins := mj_Dec_of mj_dec149
theorem mj_dc150 : mj_Dec mj_m_X6_tell := mj_Dec_of mj_dec150
theorem mj_dc151 : mj_Dec mj_m_X6_label := mj_Dec_of mj_dec151
theorem mj_dc152 : mj_Dec mj_m_X6_as := mj_Dec_of mj_dec152
theorem mj_dc153 : mj_Dec mj_m_X6_trace := mj_Dec_of mj_dec153
theorem mj_dc154 : mj_Dec mj_m_X6_fault := mj_Dec_of mj_dec154
theorem mj_dc155 : mj_Dec mj_m_X6_corners := mj_Dec_of mj_dec155
theorem mj_dc156 : mj_Dec mj_m_X6_many := mj_Dec_of mj_dec156
theorem mj_dc157 : mj_Dec mj_m_J6_bitCount_0f7a4 := mj_Dec_of mj_dec157
theorem mj_dc161 : mj_Dec mj_m_J7_fill_53178 := mj_Dec_of mj_dec161
