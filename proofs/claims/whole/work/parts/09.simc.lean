/-! the world of the small machine in the machine's heap -/
def mj_A (base : Nat) : Nat → Prop := fun q => base ≤ q
theorem mj_hs_spec {σ : mj_S} {a : Nat} (h : mj_hs σ a = true) : ∃ k, a = k + 1 ∧ k < σ.1.1 := by
  simp only [mj_hs, Bool.and_eq_true, Nat.blt_eq] at h
  have h2 := Nat.le_of_ble_eq_true h.2
  exact ⟨a - 1, by omega, by omega⟩
theorem mj_isO_spec {σ : mj_S} {a ci : Nat} (h : mj_isO σ a ci = true) : mj_hs σ a = true ∧ σ.1.2.1 a = .inl ci := by
  simp only [mj_isO, Bool.and_eq_true] at h
  refine ⟨h.1, ?_⟩
  have h2 := h.2
  split at h2
  · next c e => rw [e, Nat.eq_of_beq_eq_true h2]
  · cases h2
theorem mj_wl_get {b base : Nat} {ca : Nat → ClassId} {σ : mj_S} {k : Nat} (h : k < σ.1.1) : (mj_wl b base ca σ)[k]? = some (mj_ad b base (k + 1), mj_ce b base ca σ.1.2.1 σ.2.1 σ.2.2 (k + 1)) := by
  unfold mj_wl
  rw [List.getElem?_map, List.getElem?_range h]
  rfl
theorem mj_wl_D {b base : Nat} {ca : Nat → ClassId} {σ : mj_S} : va_D (mj_A base) (mj_wl b base ca σ) := by
  have key : ∀ (k : Nat) (q : Nat × va_E), (mj_wl b base ca σ)[k]? = some q → q.1 = base + k := by
    intro k q hk
    unfold mj_wl at hk
    rw [List.getElem?_map] at hk
    cases hr : (List.range σ.1.1)[k]? with
    | none => rw [hr] at hk; cases hk
    | some j =>
      rw [hr] at hk
      have hl := (List.getElem?_eq_some_iff.mp hr).1
      rw [List.length_range] at hl
      rw [List.getElem?_range hl] at hr
      cases hr
      cases hk
      rfl
  exact ⟨fun i j p q hi hj hpq => by rw [key i p hi, key j q hj] at hpq; omega, fun k q hk => by rw [key k q hk]; exact Nat.le_add_right _ _⟩
theorem mj_wl_set {b base : Nat} {ca : Nat → ClassId} {σ σ' : mj_S} {k : Nat} (hk : k < σ.1.1) (hn : σ'.1.1 = σ.1.1) (h : ∀ j, j ≠ k + 1 → mj_ce b base ca σ'.1.2.1 σ'.2.1 σ'.2.2 j = mj_ce b base ca σ.1.2.1 σ.2.1 σ.2.2 j) :
    (mj_wl b base ca σ).set k (mj_ad b base (k + 1), mj_ce b base ca σ'.1.2.1 σ'.2.1 σ'.2.2 (k + 1)) = mj_wl b base ca σ' := by
  apply List.ext_getElem?
  intro j
  by_cases hj : j = k
  · subst hj
    rw [List.getElem?_set_self (by unfold mj_wl; rw [List.length_map, List.length_range]; exact hk), mj_wl_get (by rw [hn]; exact hk)]
  · rw [List.getElem?_set_ne (Ne.symm hj)]
    by_cases hl : j < σ.1.1
    · rw [mj_wl_get hl, mj_wl_get (by rw [hn]; exact hl), h (j + 1) (by omega)]
    · rw [List.getElem?_eq_none (by unfold mj_wl; rw [List.length_map, List.length_range]; omega), List.getElem?_eq_none (by unfold mj_wl; rw [List.length_map, List.length_range, hn]; omega)]
def mj_AO (s : State) : Prop := va_AO RX4 s ∧ va_Nw (.arrayOver (.array .int)) s
def mj_Dec (M : mj_Md) : Prop := ∀ pc q, mj_tab M pc = some q → decode M.2.2.1 pc = .ok q
def mj_At (b base : Nat) (D : va_G) (z : mj_K × (Int32 → Int32)) (M : mj_Md) (p : Program) (R : Room) (s : State) (m : MethodId) (args : Array Value) (meth : Method) (c : Code) : Prop :=
  p.tables.exec = Jvm.exec ∧ c.code = M.2.2.1 ∧ c.maxLocals = M.2.2.2.1 ∧ meth.sig.returnType = M.2.2.2.2.1 ∧ s.vm.findClass (mj_R M.1) = some m.cls ∧ (∀ w ∈ mj_ALL, w.before args s = true) ∧ meth.locks = false ∧ (M.2.1.name = "<init>" → meth.name = "<init>") ∧
  M.2.2.2.2.2.1.1 ≤ R.frames ∧ M.2.2.2.2.2.1.2.1 ≤ R.locals ∧ va_K D vwCl [] s ∧ (∀ w ∈ mj_NW, va_Nw w s) ∧ mj_AO s ∧ b < base ∧ base ≤ s.heap.size ∧ mj_Dec M ∧ (∀ n, z.1 = .inr (9, n) → va_X b n (fun j => z.2 (nI j)) s s.heap)
def mj_Wd (b base : Nat) (D : va_G) (z : mj_K × (Int32 → Int32)) (ca : Nat → ClassId) (σ : mj_S) (s : State) (H : Heap) (locs : List Loc) : Prop :=
  H.size = base + σ.1.1 ∧ va_P D vwCl (mj_wl b base ca σ) H ∧ mj_KA ca σ s ∧ va_S (mj_A base) s.heap H locs ∧ σ.1.2.1 0 = z.1 ∧ σ.2.1 0 = z.2
def mj_Go (l : Launch) (b base : Nat) (D : va_G) (z : mj_K × (Int32 → Int32)) (M : mj_Md) (p : Program) (e : Env) (R : Room) (s : State) (m : MethodId) (args : Array Value) (below : List Frame) (meth : Method) (c : Code) (Qf : State → Prop) (pc : Nat) (L st : List Value) (σ : mj_S) : Prop :=
  ∀ (H : Heap) (locs : List Loc) (ls : Array Slot) (ca : Nat → ClassId), σ.1.2.2.1.1 ≤ σ.1.2.2.2.1 → σ.1.2.2.1.2 ≤ σ.1.2.2.2.2 → σ.1.2.2.2.1 ≤ R.cells → σ.1.2.2.2.2 ≤ R.slots → mj_Wd b base D z ca σ s H locs → mj_LR b base ls M.2.2.2.1 L →
    W p l e R s m args below meth c H locs σ.1.2.2.1.1 σ.1.2.2.1.2 Qf (F0 m pc ls (st.map (mj_cv b base)))
theorem mj_tg_spec {pc : Nat} {off : Int} {t : Nat} (h : mj_tg pc off = some t) : (pc : Int) + off = (t : Int) := by
  unfold mj_tg at h
  split at h
  · next e => cases h; exact e
  · cases h
theorem mj_g_spec {α : Type} {n k : Nat} {r x : α} (h : mj_g n k r = some x) : n = k ∧ r = x := by
  unfold mj_g at h
  cases e : Nat.beq n k with
  | false => rw [e] at h; cases h
  | true => rw [e] at h; exact ⟨Nat.eq_of_beq_eq_true e, Option.some.inj h⟩
theorem mj_if {α : Type} {c : Bool} {x : Option α} {r : α} (h : (bif c then x else none) = some r) : c = true ∧ x = some r := by
  cases c with
  | false => cases h
  | true => exact ⟨rfl, h⟩
theorem mj_vp {i : Int32} {n : Nat} (h : mj_in i n) : vp_in i n := vp_in_iff.mpr h
theorem mj_clamp {i : Int32} (h : 0 ≤ i.toInt) : nI i.toNatClampNeg = i := by
  apply Int32.toInt_inj.mp
  have h1 : i.toInt < 2147483648 := Int32.toInt_lt i
  have h2 : i.toNatClampNeg = i.toInt.toNat := rfl
  rw [nI_toInt (by omega), h2]
  omega
theorem mj_K1 {D : va_G} {s : State} {cA : ClassId} {ty : FieldType} (hK : va_K D vwCl [] s) (hA : ArrOfT s cA ty ∧ va_RA s cA ty) : va_K D vwCl [(cA, ty)] s := by
  refine ⟨hK.1, fun k q h => ?_⟩
  cases k with
  | zero => cases h; exact hA
  | succ k => simp at h
section STEP
variable {l : Launch} {b base : Nat} {D : va_G} {z : mj_K × (Int32 → Int32)} {M : mj_Md} {p : Program} {e : Env} {R : Room} {s : State} {m : MethodId} {args : Array Value} {below : List Frame} {meth : Method} {c : Code} {Qf : State → Prop} {pc pc' n : Nat} {L L' st st' : List Value} {σ σ' : mj_S} {φ : List Prop}
theorem mj_x_psh {v : Value} {k : Nat} (h : mj_psh n k pc L v st σ = some (φ, pc', L', st', σ')) : n = k ∧ pc' = pc + k ∧ L' = L ∧ st' = v :: st ∧ σ' = σ := by
  obtain ⟨h1, h2⟩ := mj_g_spec h
  cases h2
  exact ⟨h1, rfl, rfl, rfl, rfl⟩
theorem mj_x_ild {i k : Nat} (h : mj_ild n k pc i L st σ = some (φ, pc', L', st', σ')) : ∃ x, L[i]? = some (.int x) ∧ n = k ∧ pc' = pc + k ∧ L' = L ∧ st' = .int x :: st ∧ σ' = σ := by
  unfold mj_ild at h
  split at h
  · next x e => exact ⟨x, e, mj_x_psh h⟩
  · cases h
theorem mj_x_lld {i k : Nat} (h : mj_lld n k pc i L st σ = some (φ, pc', L', st', σ')) : ∃ x, L[i]? = some (.long x) ∧ n = k ∧ pc' = pc + k ∧ L' = L ∧ st' = .long x :: st ∧ σ' = σ := by
  unfold mj_lld at h
  split at h
  · next x e => exact ⟨x, e, mj_x_psh h⟩
  · cases h
theorem mj_x_ald {i k : Nat} (h : mj_ald n k pc i L st σ = some (φ, pc', L', st', σ')) : ∃ x, L[i]? = some (.ref x) ∧ n = k ∧ pc' = pc + k ∧ L' = L ∧ st' = .ref x :: st ∧ σ' = σ := by
  unfold mj_ald at h
  split at h
  · next x e => exact ⟨x, e, mj_x_psh h⟩
  · cases h
theorem mj_x_ist {i k : Nat} (h : mj_ist n k pc i L st σ = some (φ, pc', L', st', σ')) : ∃ x rest, st = .int x :: rest ∧ mj_ok L i = true ∧ i < L.length ∧ n = k ∧ pc' = pc + k ∧ L' = L.set i (.int x) ∧ st' = rest ∧ σ' = σ := by
  unfold mj_ist at h
  split at h
  · next x rest =>
    obtain ⟨h1, h2⟩ := mj_if h
    obtain ⟨h3, h4⟩ := mj_g_spec h2
    simp only [Bool.and_eq_true, Nat.blt_eq] at h1
    cases h4
    exact ⟨x, _, rfl, h1.1, h1.2, h3, rfl, rfl, rfl, rfl⟩
  · cases h
theorem mj_x_ast {i k : Nat} (h : mj_ast n k pc i L st σ = some (φ, pc', L', st', σ')) : ∃ x rest, st = .ref x :: rest ∧ mj_ok L i = true ∧ i < L.length ∧ n = k ∧ pc' = pc + k ∧ L' = L.set i (.ref x) ∧ st' = rest ∧ σ' = σ := by
  unfold mj_ast at h
  split at h
  · next x rest =>
    obtain ⟨h1, h2⟩ := mj_if h
    obtain ⟨h3, h4⟩ := mj_g_spec h2
    simp only [Bool.and_eq_true, Nat.blt_eq] at h1
    cases h4
    exact ⟨x, _, rfl, h1.1, h1.2, h3, rfl, rfl, rfl, rfl⟩
  · cases h
theorem mj_x_lst {i k : Nat} (h : mj_lst n k pc i L st σ = some (φ, pc', L', st', σ')) : ∃ x rest, st = .long x :: rest ∧ mj_ok L i = true ∧ i + 1 < L.length ∧ n = k ∧ pc' = pc + k ∧ L' = (L.set i (.long x)).set (i + 1) mj_mk ∧ st' = rest ∧ σ' = σ := by
  unfold mj_lst at h
  split at h
  · next x rest =>
    obtain ⟨h1, h2⟩ := mj_if h
    obtain ⟨h3, h4⟩ := mj_g_spec h2
    simp only [Bool.and_eq_true, Nat.blt_eq] at h1
    cases h4
    exact ⟨x, _, rfl, h1.1, h1.2, h3, rfl, rfl, rfl, rfl⟩
  · cases h
theorem mj_x_bin {f : Int32 → Int32 → Int32} (h : mj_bin f n pc L st σ = some (φ, pc', L', st', σ')) : ∃ x y rest, st = .int y :: .int x :: rest ∧ n = 1 ∧ pc' = pc + 1 ∧ L' = L ∧ st' = .int (f x y) :: rest ∧ σ' = σ := by
  unfold mj_bin at h
  split at h
  · next y x rest =>
    obtain ⟨h3, h4⟩ := mj_g_spec h
    cases h4
    exact ⟨x, y, rest, rfl, h3, rfl, rfl, rfl, rfl⟩
  · cases h
theorem mj_x_dvi {f : Int32 → Int32 → Int32} (h : mj_dvi f n pc L st σ = some (φ, pc', L', st', σ')) (ho : mj_al φ) : ∃ x y rest, st = .int y :: .int x :: rest ∧ ¬ y = 0 ∧ n = 1 ∧ pc' = pc + 1 ∧ L' = L ∧ st' = .int (f x y) :: rest ∧ σ' = σ := by
  unfold mj_dvi at h
  split at h
  · next y x rest =>
    obtain ⟨h3, h4⟩ := mj_g_spec h
    cases h4
    exact ⟨x, y, rest, rfl, ho.1, h3, rfl, rfl, rfl, rfl⟩
  · cases h
theorem mj_x_dvl {f : Int64 → Int64 → Int64} (h : mj_dvl f n pc L st σ = some (φ, pc', L', st', σ')) (ho : mj_al φ) : ∃ x y rest, st = .long y :: .long x :: rest ∧ ¬ y = 0 ∧ n = 1 ∧ pc' = pc + 1 ∧ L' = L ∧ st' = .long (f x y) :: rest ∧ σ' = σ := by
  unfold mj_dvl at h
  split at h
  · next y x rest =>
    obtain ⟨h3, h4⟩ := mj_g_spec h
    cases h4
    exact ⟨x, y, rest, rfl, ho.1, h3, rfl, rfl, rfl, rfl⟩
  · cases h
theorem mj_x_un {f : Int32 → Int32} (h : mj_un f n pc L st σ = some (φ, pc', L', st', σ')) : ∃ x rest, st = .int x :: rest ∧ n = 1 ∧ pc' = pc + 1 ∧ L' = L ∧ st' = .int (f x) :: rest ∧ σ' = σ := by
  unfold mj_un at h
  split at h
  · next x rest =>
    obtain ⟨h3, h4⟩ := mj_g_spec h
    cases h4
    exact ⟨x, rest, rfl, h3, rfl, rfl, rfl, rfl⟩
  · cases h
end STEP
