/-! sums, and how many ways there are -/
def rq_S : Nat → (Nat → Nat) → Nat
  | 0, _ => 0
  | n + 1, f => rq_S n f + f n
theorem rq_S_eq {f g : Nat → Nat} : ∀ n, (∀ i, i < n → f i = g i) → rq_S n f = rq_S n g := by
  intro n
  induction n with
  | zero => intro _; rfl
  | succ n ih => intro h; rw [rq_S, rq_S, ih (fun i hi => h i (by omega)), h n (by omega)]
theorem rq_S_le {f g : Nat → Nat} : ∀ n, (∀ i, i < n → f i ≤ g i) → rq_S n f ≤ rq_S n g := by
  intro n
  induction n with
  | zero => intro _; exact Nat.le_refl _
  | succ n ih =>
    intro h
    have a := ih (fun i hi => h i (by omega))
    have q := h n (by omega)
    rw [rq_S, rq_S]; omega
theorem rq_S_0 : ∀ n, rq_S n (fun _ => 0) = 0 := by
  intro n
  induction n with
  | zero => rfl
  | succ n ih => rw [rq_S, ih]
theorem rq_S_add {f g : Nat → Nat} : ∀ n, rq_S n (fun i => f i + g i) = rq_S n f + rq_S n g := by
  intro n
  induction n with
  | zero => rfl
  | succ n ih => rw [rq_S, rq_S, rq_S, ih]; omega
theorem rq_S_swap {f : Nat → Nat → Nat} (k : Nat) : ∀ n, rq_S n (fun i => rq_S k (fun j => f i j)) = rq_S k (fun j => rq_S n (fun i => f i j)) := by
  intro n
  induction n with
  | zero => exact (rq_S_0 k).symm
  | succ n ih => rw [rq_S, ih, ← rq_S_add]; rfl
theorem rq_S_one {f : Nat → Nat} {i : Nat} : ∀ n, i < n → f i ≤ rq_S n f := by
  intro n
  induction n with
  | zero => intro h; omega
  | succ n ih =>
    intro h
    rw [rq_S]
    by_cases g : i = n
    · subst g; omega
    · have := ih (by omega); omega
theorem rq_S_mul {f : Nat → Nat} (x : Nat) : ∀ n, rq_S n (fun i => x * f i) = x * rq_S n f := by
  intro n
  induction n with
  | zero => rfl
  | succ n ih => rw [rq_S, rq_S, ih, Nat.mul_add]
theorem rq_S_c {x : Nat} : ∀ n, rq_S n (fun _ => x) = n * x := by
  intro n
  induction n with
  | zero => exact (Nat.zero_mul x).symm
  | succ n ih => rw [rq_S, ih, Nat.succ_mul]
theorem rq_S_at {P : Prop} [Decidable P] {u v : Nat} : ∀ n, rq_S n (fun x => if P ∧ u = x then v else 0) ≤ if u < n then v else 0 := by
  intro n
  induction n with
  | zero => exact Nat.zero_le _
  | succ n ih =>
    rw [rq_S]
    by_cases h : u = n
    · rw [if_neg (show ¬ u < n by omega)] at ih
      rw [if_pos (show u < n + 1 by omega)]
      split <;> omega
    · rw [if_neg (show ¬ (P ∧ u = n) from fun q => h q.2)]
      by_cases g : u < n
      · rw [if_pos g] at ih; rw [if_pos (by omega)]; omega
      · rw [if_neg g] at ih; omega
theorem rq_S_split {f : Nat → Nat} (n : Nat) : ∀ k, rq_S (n + k) f = rq_S n f + rq_S k (fun i => f (n + i)) := by
  intro k
  induction k with
  | zero => rfl
  | succ k ih => rw [← Nat.add_assoc, rq_S, ih, rq_S]; omega
theorem rq_S_rows {f : Nat → Nat} (k : Nat) : ∀ n, rq_S (n * k) f = rq_S n (fun i => rq_S k (fun j => f (i * k + j))) := by
  intro n
  induction n with
  | zero => rw [Nat.zero_mul]; rfl
  | succ n ih => rw [Nat.succ_mul, rq_S_split, ih, rq_S]
theorem rq_S_cut {f : Nat → Nat} {m n : Nat} (h : m ≤ n) (h0 : ∀ i, m ≤ i → f i = 0) : rq_S n f = rq_S m f := by
  obtain ⟨k, rfl⟩ : ∃ k, n = m + k := ⟨n - m, by omega⟩
  rw [rq_S_split, rq_S_eq (g := fun _ => 0) k (fun i _ => h0 (m + i) (by omega)), rq_S_0]
  rfl
/-- how many ways lead to a growth and a street on the next day -/
def rq_nx (m : Nat) (e : Nat → Nat → Bool) (st : Nat → Nat → Nat) (N : Nat → Nat → Nat) (u t : Nat) : Nat := rq_S 7 (fun g => rq_S m (fun s => if e s t = true ∧ st g t = u then N g s else 0))
def rq_tt (m : Nat) (N : Nat → Nat → Nat) : Nat := rq_S 7 (fun g => rq_S m (fun s => N g s))
theorem rq_tt_nx {m : Nat} {e : Nat → Nat → Bool} {st N : Nat → Nat → Nat} : rq_tt m (rq_nx m e st N) ≤ m * rq_tt m N := by
  unfold rq_tt rq_nx
  have e1 : rq_S 7 (fun u => rq_S m (fun t => rq_S 7 (fun g => rq_S m (fun s => if e s t = true ∧ st g t = u then N g s else 0)))) = rq_S 7 (fun g => rq_S m (fun s => rq_S m (fun t => rq_S 7 (fun u => if e s t = true ∧ st g t = u then N g s else 0)))) := by
    rw [rq_S_eq (g := fun u => rq_S 7 (fun g => rq_S m (fun s => rq_S m (fun t => if e s t = true ∧ st g t = u then N g s else 0)))) 7 (fun u _ => by
      rw [rq_S_swap (f := fun t g => rq_S m (fun s => if e s t = true ∧ st g t = u then N g s else 0)) 7 m]
      exact rq_S_eq 7 (fun g _ => rq_S_swap (f := fun t s => if e s t = true ∧ st g t = u then N g s else 0) m m))]
    rw [rq_S_swap (f := fun u g => rq_S m (fun s => rq_S m (fun t => if e s t = true ∧ st g t = u then N g s else 0))) 7 7]
    refine rq_S_eq 7 (fun g _ => ?_)
    rw [rq_S_swap (f := fun u s => rq_S m (fun t => if e s t = true ∧ st g t = u then N g s else 0)) m 7]
    exact rq_S_eq m (fun s _ => rq_S_swap (f := fun u t => if e s t = true ∧ st g t = u then N g s else 0) m 7)
  rw [e1, ← rq_S_mul]
  refine rq_S_le 7 (fun g _ => ?_)
  rw [← rq_S_mul]
  refine rq_S_le m (fun s _ => ?_)
  rw [← rq_S_c]
  refine rq_S_le m (fun t _ => ?_)
  refine Nat.le_trans (rq_S_at (P := e s t = true) (u := st g t) (v := N g s) 7) ?_
  split <;> omega
theorem rq_cell {m : Nat} {N : Nat → Nat → Nat} {g s : Nat} (hg : g < 7) (hs : s < m) : N g s ≤ rq_tt m N := Nat.le_trans (rq_S_one (f := fun s => N g s) m hs) (rq_S_one (f := fun g => rq_S m (fun s => N g s)) 7 hg)
theorem rq_nx_ge {m : Nat} {e : Nat → Nat → Bool} {st N : Nat → Nat → Nat} {g s t : Nat} (hg : g < 7) (hs : s < m) (he : e s t = true) : N g s ≤ rq_nx m e st N (st g t) t := by
  unfold rq_nx
  refine Nat.le_trans ?_ (rq_S_one (f := fun g2 => rq_S m (fun s => if e s t = true ∧ st g2 t = st g t then N g2 s else 0)) 7 hg)
  refine Nat.le_trans ?_ (rq_S_one (f := fun s2 => if e s2 t = true ∧ st g t = st g t then N g s2 else 0) m hs)
  show N g s ≤ if e s t = true ∧ st g t = st g t then N g s else 0
  rw [if_pos ⟨he, rfl⟩]
  exact Nat.le_refl _
theorem rq_nx_pos {m : Nat} {e : Nat → Nat → Bool} {st N : Nat → Nat → Nat} {u t : Nat} (h : rq_nx m e st N u t ≠ 0) : ∃ g, g < 7 ∧ ∃ s, s < m ∧ e s t = true ∧ st g t = u ∧ N g s ≠ 0 := by
  by_cases hex : ∃ g, g < 7 ∧ ∃ s, s < m ∧ e s t = true ∧ st g t = u ∧ N g s ≠ 0
  · exact hex
  · exfalso
    refine h ?_
    unfold rq_nx
    rw [rq_S_eq (g := fun _ => 0) 7 (fun g hg => ?_), rq_S_0]
    rw [rq_S_eq (g := fun _ => 0) m (fun s hs => ?_), rq_S_0]
    show (if e s t = true ∧ st g t = u then N g s else 0) = 0
    by_cases q : e s t = true ∧ st g t = u
    · rw [if_pos q]
      by_cases z : N g s = 0
      · exact z
      · exact absurd ⟨g, hg, s, hs, q.1, q.2, z⟩ hex
    · rw [if_neg q]
