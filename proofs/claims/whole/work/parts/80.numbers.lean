/-! the quickest: the class's numbers -/
def rq_kn (x : Nat) : Nat := 512 * (x % 6) + x / 6 % 7 + 8 * (x / 42 % 7) + 64 * (x / 294 % 7)
theorem rq_kn_lt (x : Nat) : rq_kn x < 3072 := by unfold rq_kn; omega
theorem rq_kn_inj {x y : Nat} (hx : x < 2058) (hy : y < 2058) (h : rq_kn x = rq_kn y) : x = y := by
  unfold rq_kn at h
  have a0 := Nat.mod_lt (x / 6) (show 0 < 7 by omega)
  have a1 := Nat.mod_lt (x / 42) (show 0 < 7 by omega)
  have a2 := Nat.mod_lt (x / 294) (show 0 < 7 by omega)
  have a3 := Nat.mod_lt x (show 0 < 6 by omega)
  have b0 := Nat.mod_lt (y / 6) (show 0 < 7 by omega)
  have b1 := Nat.mod_lt (y / 42) (show 0 < 7 by omega)
  have b2 := Nat.mod_lt (y / 294) (show 0 < 7 by omega)
  have b3 := Nat.mod_lt y (show 0 < 6 by omega)
  have e3 : x % 6 = y % 6 := by omega
  have e2 : x / 294 % 7 = y / 294 % 7 := by omega
  have e1 : x / 42 % 7 = y / 42 % 7 := by omega
  have e0 : x / 6 % 7 = y / 6 % 7 := by omega
  omega
theorem rq_q1 : ∀ s : Fin 6, ∀ a : Fin 7, ∀ e : Fin 7, ∀ f : Fin 7, (nI (512 * s.1 + a.1 + 8 * e.1 + 64 * f.1) >>> ((3 * nI 0) &&& 31)) &&& 7 = nI a.1 ∧ (nI (512 * s.1 + a.1 + 8 * e.1 + 64 * f.1) >>> ((3 * nI 1) &&& 31)) &&& 7 = nI e.1 ∧ (nI (512 * s.1 + a.1 + 8 * e.1 + 64 * f.1) >>> ((3 * nI 2) &&& 31)) &&& 7 = nI f.1 := by decide +kernel
theorem rq_q2 : ∀ s : Fin 6, ∀ a : Fin 7, ∀ e : Fin 7, ∀ f : Fin 7, nI (512 * s.1 + a.1 + 8 * e.1 + 64 * f.1) >>> ((9 : Int32) &&& 31) = nI s.1 ∧ ((nI (512 * s.1 + a.1 + 8 * e.1 + 64 * f.1) &&& 511 = 438) ↔ (a.1 = 6 ∧ e.1 = 6 ∧ f.1 = 6)) := by decide +kernel
theorem rq_x93 : ∀ s : Fin 6, ∀ a : Fin 7, ∀ e : Fin 7, ∀ f : Fin 7, (((nI s.1 <<< ((9 : Int32) &&& 31)) ||| (nI a.1 <<< ((3 * nI 0) &&& 31))) ||| (nI e.1 <<< ((3 * nI 1) &&& 31))) ||| (nI f.1 <<< ((3 * nI 2) &&& 31)) = nI (512 * s.1 + a.1 + 8 * e.1 + 64 * f.1) := by decide +kernel
section VY
variable {cc m p R : Nat} {A B : mj_I}
theorem rq_k9 (x : Nat) : nI (rq_kn x) >>> ((9 : Int32) &&& 31) = nI (x % 6) := (rq_q2 ⟨x % 6, Nat.mod_lt _ (by omega)⟩ ⟨x / 6 % 7, Nat.mod_lt _ (by omega)⟩ ⟨x / 42 % 7, Nat.mod_lt _ (by omega)⟩ ⟨x / 294 % 7, Nat.mod_lt _ (by omega)⟩).1
theorem rq_kg {x : Nat} (hx : x < 2058) : (nI (rq_kn x) &&& 511 = 438) ↔ x / 6 = 342 := by
  have := (rq_q2 ⟨x % 6, Nat.mod_lt _ (by omega)⟩ ⟨x / 6 % 7, Nat.mod_lt _ (by omega)⟩ ⟨x / 42 % 7, Nat.mod_lt _ (by omega)⟩ ⟨x / 294 % 7, Nat.mod_lt _ (by omega)⟩).2
  refine Iff.trans this ?_
  show (x / 6 % 7 = 6 ∧ x / 42 % 7 = 6 ∧ x / 294 % 7 = 6) ↔ x / 6 = 342
  constructor
  · rintro ⟨a, e, f⟩; omega
  · intro h; omega
/-- the class's number behind a day -/
theorem rq_bday (hcc : cc = 2 ∨ cc = 10) (hR : mj_RL cc m p R A B) {I : mj_I} (hI : ∀ x, cc ≤ x → x ≤ cc + 7 → I x = A x) {x t : Nat} (hx : x < 2058) (hok : rq_okv A cc m p x) (ht : t < m) : s_X3_behindDay cc (nI (rq_kn x)) (nI t) I = nI (rq_kn (rq_bv A cc x t)) := by
  have hm := hR.1.1
  have hp3 := hR.1.2.1
  obtain ⟨⟨k0, k1, k2⟩, _⟩ := hok
  have n0 := rq_okn (t := t) hp3 hR.2.2.2.2.1 (show 0 < 3 by omega) (Nat.mod_lt (x / 6) (by omega)) k0
  have n1 := rq_okn (t := t) hp3 hR.2.2.2.2.1 (show 1 < 3 by omega) (Nat.mod_lt (x / 42) (by omega)) k1
  have n2 := rq_okn (t := t) hp3 hR.2.2.2.2.1 (show 2 < 3 by omega) (Nat.mod_lt (x / 294) (by omega)) k2
  obtain ⟨c0, c1, c2⟩ := rq_q1 ⟨x % 6, Nat.mod_lt _ (by omega)⟩ ⟨x / 6 % 7, Nat.mod_lt _ (by omega)⟩ ⟨x / 42 % 7, Nat.mod_lt _ (by omega)⟩ ⟨x / 294 % 7, Nat.mod_lt _ (by omega)⟩
  have c0' : (nI (rq_kn x) >>> ((3 * nI 0) &&& 31)) &&& 7 = nI (x / 6 % 7) := c0
  have c1' : (nI (rq_kn x) >>> ((3 * nI 1) &&& 31)) &&& 7 = nI (x / 42 % 7) := c1
  have c2' : (nI (rq_kn x) >>> ((3 * nI 2) &&& 31)) &&& 7 = nI (x / 294 % 7) := c2
  have sg : ∀ j : Nat, j < 3 → ∀ g e : Int32, sp_g I cc (nI j) g e = sp_g A cc (nI j) g e := by
    intro j hj g e
    unfold sp_g
    rw [rq_tn3 hj, hI (cc + 3) (by omega) (by omega), hI (cc + 5 + j) (by omega) (by omega)]
  have q3 := rq_x93 ⟨t, by omega⟩ ⟨_, n0.2.1⟩ ⟨_, n1.2.1⟩ ⟨_, n2.2.1⟩
  unfold s_X3_behindDay
  rw [s_X3_bd, s_X3_bd, s_X3_bd, s_X3_bd, c0', c1', c2', sg 0 (by omega), sg 1 (by omega), sg 2 (by omega), hI (cc + 1) (by omega) (by omega), n0.1, n1.1, n2.1]
  refine Eq.trans q3 ?_
  have a0 := n0.2.1
  have a1 := n1.2.1
  have a2 := n2.2.1
  congr 1
  show 512 * t + rq_sg A cc 0 (x / 6 % 7) t + 8 * rq_sg A cc 1 (x / 42 % 7) t + 64 * rq_sg A cc 2 (x / 294 % 7) t = rq_kn (rq_bv A cc x t)
  have q0 : rq_bv A cc x t / 6 % 7 = rq_sg A cc 0 (x / 6 % 7) t := by unfold rq_bv; omega
  have q1 : rq_bv A cc x t / 42 % 7 = rq_sg A cc 1 (x / 42 % 7) t := by unfold rq_bv; omega
  have q2 : rq_bv A cc x t / 294 % 7 = rq_sg A cc 2 (x / 294 % 7) t := by unfold rq_bv; omega
  have q3 : rq_bv A cc x t % 6 = t := by unfold rq_bv; omega
  unfold rq_kn
  rw [q0, q1, q2, q3]
/-- the class's first number -/
def rq_sf (x : Int32) (j : Nat) (g : Int32) : Int32 := if ((x >>> ((nI j) &&& 31)) &&& 1 : Int32) = 1 then g ||| 0 else g ||| (6 <<< ((3 * (nI j)) &&& 31))
theorem rq_q5 : ∀ x : Fin 8, rq_sf (nI x.1) 2 (rq_sf (nI x.1) 1 (rq_sf (nI x.1) 0 0)) = nI (rq_bg x.1 0 + 8 * rq_bg x.1 1 + 64 * rq_bg x.1 2) := by decide +kernel
theorem rq_q4 (x : Fin 8) (I : mj_I) : s_X3_startOf (nI x.1) I = nI (rq_bg x.1 0 + 8 * rq_bg x.1 1 + 64 * rq_bg x.1 2) := by
  have st : ∀ (k j : Nat) (g : Int32), s_X3_so (nI x.1) I (k + 1) j g = s_X3_so (nI x.1) I k (j + 1) (rq_sf (nI x.1) j g) := by
    intro k j g
    rw [s_X3_so]
    unfold rq_sf
    by_cases h : (nI x.1 >>> (nI j &&& 31)) &&& 1 = 1
    · rw [if_pos h, if_pos h]
    · rw [if_neg h, if_neg h]
  unfold s_X3_startOf
  rw [st, st, st, s_X3_so]
  exact rq_q5 x
theorem rq_st9 {x s : Nat} (hx : x < 8) (hs : s < 6) (I : mj_I) : s_X3_startOf (nI x) I = nI (rq_kn (rq_sn x 0)) := by
  have bg : ∀ j, rq_bg x j = 0 ∨ rq_bg x j = 6 := fun j => by unfold rq_bg; split <;> omega
  have b0 := bg 0
  have b1 := bg 1
  have b2 := bg 2
  refine (rq_q4 ⟨x, hx⟩ I).trans ?_
  congr 1
  show rq_bg x 0 + 8 * rq_bg x 1 + 64 * rq_bg x 2 = rq_kn (rq_sn x 0)
  unfold rq_kn rq_sn
  omega
end VY
