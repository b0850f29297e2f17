/-! what the tables give -/
def mj_ALL : List Cond := lw_tbl.filter goodWord
def mj_isN : Cond → Bool
  | .fieldLinkNest .. => true
  | .methodLinkNest .. => true
  | _ => false
def mj_NW : List Cond := lw_tbl.filter mj_isN
theorem mj_w_in {pl : Nat} {w : Cond} (h : mj_w pl w = true) : w ∈ mj_ALL := by
  simp only [mj_w, Bool.and_eq_true, decide_eq_true_eq] at h
  exact List.mem_filter.mpr ⟨List.mem_of_getElem? h.1, h.2⟩
theorem mj_wn_in {pl : Nat} {w : Cond} (h : mj_wn pl w = true) (hn : mj_isN w = true) : w ∈ mj_NW := by
  simp only [mj_wn, decide_eq_true_eq] at h
  exact List.mem_filter.mpr ⟨List.mem_of_getElem? h, hn⟩
theorem mj_wn_tb {pl : Nat} {w : Cond} (h : mj_wn pl w = true) : w ∈ lw_tbl := by
  simp only [mj_wn, decide_eq_true_eq] at h
  exact List.mem_of_getElem? h
theorem mj_good_all : ∀ w ∈ mj_ALL, (w.onTables && w.keeps) = true ∨ ∃ ty, w = .arrayClass ty := fun w h => good_of_word (List.mem_filter.mp h).2
theorem mj_range {n : Nat} {p : Nat → Bool} (h : (List.range n).all p = true) {i : Nat} (hi : i < n) : p i = true := List.all_eq_true.mp h i (List.mem_range.mpr hi)
theorem mj_all_ok (cn i : Nat) : mj_allc cn i = true := by
  by_cases hc : cn < 12
  · by_cases hi : i < 277
    · match cn, hc with
      | 0, _ => exact mj_range mj_all0 hi
      | 1, _ => exact mj_range mj_all1 hi
      | 2, _ => exact mj_range mj_all2 hi
      | 3, _ => exact mj_range mj_all3 hi
      | 4, _ => exact mj_range mj_all4 hi
      | 5, _ => exact mj_range mj_all5 hi
      | 6, _ => exact mj_range mj_all6 hi
      | 7, _ => exact mj_range mj_all7 hi
      | 8, _ => exact mj_range mj_all8 hi
      | 9, _ => exact mj_range mj_all9 hi
      | 10, _ => exact mj_range mj_all10 hi
      | 11, _ => exact mj_range mj_all11 hi
      | n + 12, hc => exact absurd hc (by omega)
    · have hg : (Nat.blt cn 12 && Nat.blt i 277) = false := by
        have : Nat.blt i 277 = false := by
          simp only [Nat.blt_eq, Bool.eq_false_iff, ne_eq]; exact hi
        rw [this, Bool.and_false]
      simp [mj_allc, mj_pfc, mj_pmc, mj_pnc, mj_pkc, mj_poc, mj_pf, mj_pm, mj_pn, mj_pl, mj_pi, mj_po, mj_pa, hg]
  · have hg : (Nat.blt cn 12 && Nat.blt i 277) = false := by
      have : Nat.blt cn 12 = false := by
        simp only [Nat.blt_eq, Bool.eq_false_iff, ne_eq]; exact hc
      rw [this, Bool.false_and]
    simp [mj_allc, mj_pfc, mj_pmc, mj_pnc, mj_pkc, mj_poc, mj_pf, mj_pm, mj_pn, mj_pl, mj_pi, mj_po, mj_pa, hg]
theorem mj_all_and (cn i : Nat) : mj_pfc cn i = true ∧ mj_pmc cn i = true ∧ mj_pnc cn i = true ∧ mj_pkc cn i = true ∧ mj_poc cn i = true := by
  have h := mj_all_ok cn i
  simpa only [mj_allc, Bool.and_eq_true] using h
/-- a field's link -/
theorem mj_pf_ok {cn i ci f : Nat} (h : mj_pf cn i = some (ci, f)) : ci < 7 ∧ f < mj_nf ci ∧
    (((mj_pfw cn i).2 = none ∧ Cond.fieldLink (mj_R cn) i (mj_R ci) (mj_T ci f).2.1 (mj_T ci f).2.2.1 ∈ mj_ALL) ∨
     (∃ host, (mj_pfw cn i).2 = some host ∧ Cond.fieldLinkNest (mj_R cn) i (mj_R ci) (mj_T ci f).2.1 (mj_T ci f).2.2.1 host ∈ mj_NW)) := by
  have h1 := (mj_all_and cn i).1
  unfold mj_pfc at h1
  rw [h] at h1
  simp only [Bool.and_eq_true, Nat.blt_eq] at h1
  refine ⟨h1.1, h1.2.1, ?_⟩
  have h2 := h1.2.2
  rcases hw : mj_pfw cn i with ⟨pl, _ | host⟩
  · rw [hw] at h2
    exact Or.inl ⟨rfl, mj_w_in h2⟩
  · rw [hw] at h2
    exact Or.inr ⟨host, rfl, mj_wn_in h2 rfl⟩
theorem mj_pn_ok {cn i ci : Nat} (h : mj_pn cn i = some ci) : ci < 7 ∧ Cond.classLink (mj_R cn) i (mj_R ci) ∈ mj_ALL := by
  have h1 := (mj_all_and cn i).2.2.1
  unfold mj_pnc at h1
  rw [h] at h1
  simp only [Bool.and_eq_true, Nat.blt_eq] at h1
  exact ⟨h1.1, mj_w_in h1.2⟩
theorem mj_pl_ok {cn i : Nat} {v : Int64} (h : mj_pl cn i = some v) : Cond.constantLong (mj_R cn) i v ∈ mj_ALL := by
  have h1 := (mj_all_and cn i).2.2.2.1
  unfold mj_pkc at h1
  rw [h] at h1
  simp only [Bool.and_eq_true] at h1
  exact mj_w_in h1.1
theorem mj_pi_ok {cn i : Nat} {v : Int32} (h : mj_pi cn i = some v) : Cond.constant (mj_R cn) i v ∈ mj_ALL := by
  have h1 := (mj_all_and cn i).2.2.2.1
  unfold mj_pkc at h1
  rw [h] at h1
  simp only [Bool.and_eq_true] at h1
  exact mj_w_in h1.2
theorem mj_po_ok {cn i : Nat} (h : mj_po cn i = true) : Cond.methodLink (mj_R cn) i Lib.objectInit ∈ mj_ALL := by
  have h1 := (mj_all_and cn i).2.2.2.2
  unfold mj_poc at h1
  rw [h] at h1
  simp only [Bool.and_eq_true, cond_true] at h1
  exact mj_w_in h1.1
theorem mj_pa_ok {cn i : Nat} (h : mj_pa cn i = true) : Cond.methodLink (mj_R cn) i arraycopyName ∈ mj_ALL := by
  have h1 := (mj_all_and cn i).2.2.2.2
  unfold mj_poc at h1
  rw [h] at h1
  simp only [Bool.and_eq_true, cond_true] at h1
  exact mj_w_in h1.2
theorem mj_cl_get {ci : Nat} (h : ci < 7) : vwCl[ci]? = some (mj_R ci, mj_T ci, mj_nf ci) := by
  match ci, h with
  | 0, _ => rfl
  | 1, _ => rfl
  | 2, _ => rfl
  | 3, _ => rfl
  | 4, _ => rfl
  | 5, _ => rfl
  | 6, _ => rfl
  | n + 7, h => exact absurd h (by omega)
theorem mj_u_in {ci : Nat} (h : ci < 7) : ∀ w ∈ u_ws (mj_R ci) (mj_T ci) (mj_nf ci), w ∈ mj_ALL := by
  intro w hw
  obtain ⟨k, hk, rfl⟩ := List.mem_map.mp hw
  exact mj_w_in (mj_range (mj_range mj_uw_ok h) (List.mem_range.mp hk))
theorem mj_in_ok {ci : Nat} (h : ci < 7) : Cond.instantiable (mj_R ci) (mj_nf ci) ∈ mj_ALL ∧ Cond.initialized (mj_R ci) ∈ mj_ALL := by
  have h1 := mj_range mj_cl_ok h
  simp only [Bool.and_eq_true] at h1
  exact ⟨mj_w_in h1.1, mj_w_in h1.2⟩
theorem mj_ty_ok {ci : Nat} (h : ci < 7) : ∀ k, k < mj_nf ci → parseFieldDescriptor (mj_T ci k).2.2.1 = some (mj_ty ci k) := by
  match ci, h with
  | 0, _ => exact tyX0_ok
  | 1, _ => exact tyX1_ok
  | 2, _ => exact tyX2_ok
  | 3, _ => exact tyX3_ok
  | 4, _ => exact tyX4_ok
  | 5, _ => exact tyX5_ok
  | 6, _ => exact tyX6_ok
  | n + 7, h => exact absurd h (by omega)
theorem mj_nm_ok {ci : Nat} (h : ci < 7) : ∀ a, a < mj_nf ci → ∀ b, b < mj_nf ci → a ≠ b → (mj_T ci a).2.1 ≠ (mj_T ci b).2.1 := by
  match ci, h with
  | 0, _ => exact nmX0
  | 1, _ => exact nmX1
  | 2, _ => exact nmX2
  | 3, _ => exact nmX3
  | 4, _ => exact nmX4
  | 5, _ => exact nmX5
  | 6, _ => exact nmX6
  | n + 7, h => exact absurd h (by omega)
/-- fields: their class, their types, their numbers are small -/
theorem mj_fd_all : (List.range 7).all (fun ci => decide (mj_nf ci ≤ 30) && (List.range (mj_nf ci)).all (fun f => decide ((mj_T ci f).1 = mj_R ci) && (match mj_ft ci f with
    | 0 => decide (mj_ty ci f = .int)
    | 1 => decide (mj_ty ci f = .boolean)
    | 2 => (match mj_ty ci f with | .object _ => true | .array _ => true | _ => false)
    | _ => false))) = true := by decide +kernel
theorem mj_fd_ok {ci f : Nat} (h : ci < 7) (hf : f < mj_nf ci) : f < 30 ∧ (mj_T ci f).1 = mj_R ci ∧ ((mj_ft ci f = 0 ∧ mj_ty ci f = .int) ∨ (mj_ft ci f = 1 ∧ mj_ty ci f = .boolean) ∨ (mj_ft ci f = 2 ∧ ((∃ n, mj_ty ci f = .object n) ∨ ∃ t, mj_ty ci f = .array t))) := by
  have h1 := mj_range mj_fd_all h
  simp only [Bool.and_eq_true, decide_eq_true_eq] at h1
  have h2 := mj_range h1.2 hf
  simp only [Bool.and_eq_true, decide_eq_true_eq] at h2
  refine ⟨by omega, h2.1, ?_⟩
  have h3 := h2.2
  rcases e : mj_ft ci f with _ | _ | _ | n
  · rw [e] at h3
    exact Or.inl ⟨rfl, by simpa using h3⟩
  · rw [e] at h3
    exact Or.inr (Or.inl ⟨rfl, by simpa using h3⟩)
  · rw [e] at h3
    refine Or.inr (Or.inr ⟨rfl, ?_⟩)
    cases e2 : mj_ty ci f <;> rw [e2] at h3 <;> first | exact Or.inl ⟨_, rfl⟩ | exact Or.inr ⟨_, rfl⟩ | cases h3
  · rw [e] at h3
    cases h3
/-! the frame's locals -/
def mj_as (b base : Nat) (L : List Value) : List (Nat × Value) := L.zipIdx.filterMap (fun q => bif mj_live q.1 then some (q.2, mj_cv b base q.1) else none)
theorem mj_as_mem {b base : Nat} {L : List Value} {i : Nat} {w : Value} : (i, w) ∈ mj_as b base L ↔ ∃ v, L[i]? = some v ∧ mj_live v = true ∧ w = mj_cv b base v := by
  unfold mj_as
  rw [List.mem_filterMap]
  constructor
  · rintro ⟨⟨v, j⟩, hm, he⟩
    have hm := List.mem_zipIdx_iff_getElem?.mp hm
    cases hl : mj_live v with
    | false => simp [hl] at he
    | true =>
      simp only [hl, cond_true, Option.some.injEq, Prod.mk.injEq] at he
      obtain ⟨rfl, rfl⟩ := he
      exact ⟨v, hm, hl, rfl⟩
  · rintro ⟨v, hi, hl, rfl⟩
    exact ⟨(v, i), List.mem_zipIdx_iff_getElem?.mpr hi, by simp [hl]⟩
def mj_LR (b base : Nat) (ls : Array Slot) (nL : Nat) (L : List Value) : Prop := lv_has ls nL (mj_as b base L) ∧ L.length = nL
theorem mj_LR.get {b base : Nat} {ls : Array Slot} {nL : Nat} {L : List Value} (h : mj_LR b base ls nL L) {i : Nat} {v : Value} (hi : L[i]? = some v) (hl : mj_live v = true) : ls[i]? = some (.val (mj_cv b base v)) :=
  h.1.2.2 (i, mj_cv b base v) (mj_as_mem.mpr ⟨v, hi, hl, rfl⟩)
theorem mj_cv_cat (b base : Nat) (v : Value) : (mj_cv b base v).category = v.category := by cases v <;> rfl
theorem mj_ok_spec {L : List Value} {i : Nat} (h : mj_ok L i = true) {j : Nat} {v : Value} (hj : L[j]? = some v) (hi : j + 1 = i) : v.category = 1 := by
  subst hi
  simp only [mj_ok, hj] at h
  exact Nat.eq_of_beq_eq_true h
theorem mj_LR.set1 {b base : Nat} {ls ls' : Array Slot} {nL : Nat} {L : List Value} {i : Nat} {v : Value} (h : mj_LR b base ls nL L) (hk : mj_ok L i = true)
    (h' : lv_has ls' nL ((i, mj_cv b base v) :: (mj_as b base L).filter (fun q => !(q.1 == i) && !(q.1 + 1 == i && q.2.category == 2)))) : mj_LR b base ls' nL (L.set i v) := by
  refine ⟨⟨h'.1, h'.2.1, fun q hq => ?_⟩, by rw [List.length_set]; exact h.2⟩
  obtain ⟨j, w⟩ := q
  obtain ⟨u, hu, hl, rfl⟩ := mj_as_mem.mp hq
  by_cases hji : j = i
  · subst hji
    have hlt : j < L.length := by
      have := (List.getElem?_eq_some_iff.mp hu).1
      rwa [List.length_set] at this
    rw [List.getElem?_set_self hlt] at hu
    cases hu
    exact h'.2.2 _ List.mem_cons_self
  · rw [List.getElem?_set_ne (Ne.symm hji)] at hu
    refine h'.2.2 _ (List.mem_cons_of_mem _ (List.mem_filter.mpr ⟨mj_as_mem.mpr ⟨u, hu, hl, rfl⟩, ?_⟩))
    simp only [Bool.and_eq_true, Bool.not_eq_true', beq_eq_false_iff_ne, ne_eq, hji, not_false_eq_true, true_and, Bool.and_eq_false_iff, mj_cv_cat]
    by_cases h1 : j + 1 = i
    · right
      rw [mj_ok_spec hk hu h1]
      decide
    · exact Or.inl h1
theorem mj_LR.set2 {b base : Nat} {ls ls' : Array Slot} {nL : Nat} {L : List Value} {i : Nat} {x : Int64} (h : mj_LR b base ls nL L) (hk : mj_ok L i = true)
    (h' : lv_has ls' nL ((i, .long x) :: (mj_as b base L).filter (fun q => !(q.1 == i) && (!(q.1 == i + 1) && !(q.1 + 1 == i && q.2.category == 2))))) : mj_LR b base ls' nL ((L.set i (.long x)).set (i + 1) mj_mk) := by
  refine ⟨⟨h'.1, h'.2.1, fun q hq => ?_⟩, by rw [List.length_set, List.length_set]; exact h.2⟩
  obtain ⟨j, w⟩ := q
  obtain ⟨u, hu, hl, rfl⟩ := mj_as_mem.mp hq
  by_cases hj1 : j = i + 1
  · subst hj1
    have hlt : i + 1 < (L.set i (.long x)).length := by
      have := (List.getElem?_eq_some_iff.mp hu).1
      rwa [List.length_set] at this
    rw [List.getElem?_set_self hlt] at hu
    cases hu
    cases hl
  · rw [List.getElem?_set_ne (Ne.symm hj1)] at hu
    by_cases hji : j = i
    · subst hji
      have hlt : j < L.length := by
        have := (List.getElem?_eq_some_iff.mp hu).1
        rwa [List.length_set] at this
      rw [List.getElem?_set_self hlt] at hu
      cases hu
      exact h'.2.2 _ List.mem_cons_self
    · rw [List.getElem?_set_ne (Ne.symm hji)] at hu
      refine h'.2.2 _ (List.mem_cons_of_mem _ (List.mem_filter.mpr ⟨mj_as_mem.mpr ⟨u, hu, hl, rfl⟩, ?_⟩))
      simp only [Bool.and_eq_true, Bool.not_eq_true', beq_eq_false_iff_ne, ne_eq, hji, hj1, not_false_eq_true, true_and, Bool.and_eq_false_iff, mj_cv_cat]
      by_cases h1 : j + 1 = i
      · right
        rw [mj_ok_spec hk hu h1]
        decide
      · exact Or.inl h1
