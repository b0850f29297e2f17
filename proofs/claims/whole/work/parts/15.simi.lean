/-! branches, returns, calls: what a method does -/
def mj_end (M : mj_Md) (pc : Nat) : Option Value → Prop
  | none => mj_tab M pc = some (.return_, 1) ∧ M.2.2.2.2.1 = none
  | some (.int v) => mj_tab M pc = some (.ireturn, 1) ∧ (M.2.2.2.2.1 = some .int ∨ (M.2.2.2.2.1 = some .boolean ∧ (v = 0 ∨ v = 1)))
  | some (.long _) => mj_tab M pc = some (.lreturn, 1) ∧ M.2.2.2.2.1 = some .long
  | _ => False
def mj_Rn (l : Launch) (b base : Nat) (D : va_G) (z : mj_K × (Int32 → Int32)) (M : mj_Md) (pc : Nat) (L st : List Value) (σ : mj_S) (Q : Option Value → mj_S → Prop) : Prop :=
  ∀ (p : Program) (e : Env) (R : Room) (s : State) (m : MethodId) (args : Array Value) (below : List Frame) (meth : Method) (c : Code) (Qf : State → Prop), mj_At b base D z M p R s m args meth c →
    (∀ (r : Option Value) (σ' : mj_S) (pc' : Nat) (L' : List Value), Q r σ' → mj_end M pc' r → mj_Go l b base D z M p e R s m args below meth c Qf pc' L' r.toList σ') → mj_Go l b base D z M p e R s m args below meth c Qf pc L st σ
section STEP9
variable {l : Launch} {b base : Nat} {D : va_G} {z : mj_K × (Int32 → Int32)} {M : mj_Md} {pc pc' n : Nat} {L L' st st' : List Value} {σ σ' : mj_S} {φ : List Prop} {Q : Option Value → mj_S → Prop}
theorem R_seg (k : Nat) (h : mj_run k M pc L st σ = some (φ, pc', L', st', σ')) (ho : mj_al φ) (kk : mj_Rn l b base D z M pc' L' st' σ' Q) : mj_Rn l b base D z M pc L st σ Q := by
  intro p e R s m args below meth c Qf A kr
  exact mj_runs A k pc L st σ φ h ho (kk p e R s m args below meth c Qf A kr)
theorem R_mono {Q' : Option Value → mj_S → Prop} (h : ∀ r σ, Q r σ → Q' r σ) (kk : mj_Rn l b base D z M pc L st σ Q) : mj_Rn l b base D z M pc L st σ Q' := by
  intro p e R s m args below meth c Qf A kr
  exact kk p e R s m args below meth c Qf A (fun r σ' pc' L' hq he => kr r σ' pc' L' (h r σ' hq) he)
theorem R_ret {r : Option Value} (h : mj_end M pc r) (hq : Q r σ) (hs : r.toList = st) : mj_Rn l b base D z M pc L st σ Q := by
  intro p e R s m args below meth c Qf A kr
  subst hs
  exact kr r σ pc L hq h
theorem R_br {q : Prop} {t f : Nat} {rest : List Value} (h : mj_b M pc st = some (q, t, f, rest)) (kt : q → mj_Rn l b base D z M t L rest σ Q) (kf : ¬ q → mj_Rn l b base D z M f L rest σ Q) : mj_Rn l b base D z M pc L st σ Q := by
  intro p e R s m args below meth c Qf A kr
  have kt := fun hq => kt hq p e R s m args below meth c Qf A kr
  have kf := fun hq => kf hq p e R s m args below meth c Qf A kr
  obtain ⟨hx, hb, hml, hr, hown, hts, hlk, hin, hfr, hlo, hK, hN, hAO, hbb, hbs, hdec, hsc⟩ := A
  unfold mj_b at h
  split at h
  · next cd off ht =>
    have hd := hdec pc _ ht
    split at h
    · next x rest' t' htg =>
      have htg := mj_tg_spec htg
      intro H locs ls ca c1 c2 b1 b2 hW hL
      cases cd with
      | eq => cases h; exact lv_if_eq hx hb hd htg (fun hq => kt hq H locs ls ca c1 c2 b1 b2 hW hL) (fun hq => kf hq H locs ls ca c1 c2 b1 b2 hW hL)
      | ne => cases h; exact lv_if_ne hx hb hd htg (fun hq => kf hq H locs ls ca c1 c2 b1 b2 hW hL) (fun hq => kt hq H locs ls ca c1 c2 b1 b2 hW hL)
      | lt => cases h; exact lv_if_lt hx hb hd htg (fun hq => kt hq H locs ls ca c1 c2 b1 b2 hW hL) (fun hq => kf hq H locs ls ca c1 c2 b1 b2 hW hL)
      | ge => cases h; exact lv_if_ge hx hb hd htg (fun hq => kf (Int32.not_lt.mpr hq) H locs ls ca c1 c2 b1 b2 hW hL) (fun hq => kt (Int32.not_le.mp hq) H locs ls ca c1 c2 b1 b2 hW hL)
      | gt => cases h; exact lv_if_gt hx hb hd htg (fun hq => kt hq H locs ls ca c1 c2 b1 b2 hW hL) (fun hq => kf hq H locs ls ca c1 c2 b1 b2 hW hL)
      | le => cases h; exact lv_if_le hx hb hd htg (fun hq => kf (Int32.not_lt.mpr hq) H locs ls ca c1 c2 b1 b2 hW hL) (fun hq => kt (Int32.not_le.mp hq) H locs ls ca c1 c2 b1 b2 hW hL)
    · cases h
  · next cd off ht =>
    have hd := hdec pc _ ht
    split at h
    · next y x rest' t' htg =>
      have htg := mj_tg_spec htg
      intro H locs ls ca c1 c2 b1 b2 hW hL
      cases cd with
      | eq => cases h; exact lv_icmp_eq hx hb hd htg (fun hq => kt hq H locs ls ca c1 c2 b1 b2 hW hL) (fun hq => kf hq H locs ls ca c1 c2 b1 b2 hW hL)
      | ne => cases h; exact lv_icmp_ne hx hb hd htg (fun hq => kf hq H locs ls ca c1 c2 b1 b2 hW hL) (fun hq => kt hq H locs ls ca c1 c2 b1 b2 hW hL)
      | lt => cases h; exact lv_icmp_lt hx hb hd htg (fun hq => kt hq H locs ls ca c1 c2 b1 b2 hW hL) (fun hq => kf hq H locs ls ca c1 c2 b1 b2 hW hL)
      | ge => cases h; exact lv_icmp_ge hx hb hd htg (fun hq => kf (Int32.not_lt.mpr hq) H locs ls ca c1 c2 b1 b2 hW hL) (fun hq => kt (Int32.not_le.mp hq) H locs ls ca c1 c2 b1 b2 hW hL)
      | gt => cases h; exact lv_icmp_gt hx hb hd htg (fun hq => kt hq H locs ls ca c1 c2 b1 b2 hW hL) (fun hq => kf hq H locs ls ca c1 c2 b1 b2 hW hL)
      | le => cases h; exact lv_icmp_le hx hb hd htg (fun hq => kf (Int32.not_lt.mpr hq) H locs ls ca c1 c2 b1 b2 hW hL) (fun hq => kt (Int32.not_le.mp hq) H locs ls ca c1 c2 b1 b2 hW hL)
    · cases h
  · cases h
end STEP9
/-! a method's locals as it begins -/
def mj_e1 (args : List Value) : List Value := args.flatMap (fun v => if v.category = 2 then [v, mj_mk] else [v])
def mj_ent (args : List Value) (nL : Nat) : List Value := mj_e1 args ++ List.replicate (nL - (mj_e1 args).length) mj_mk
theorem mj_e1_args (b base : Nat) : ∀ (args : List Value) (o i : Nat) (v : Value), (mj_e1 args)[i]? = some v → mj_live v = true → (o + i, mj_cv b base v) ∈ lv_args o (args.map (mj_cv b base)) := by
  intro args
  induction args with
  | nil => intro o i v h; simp [mj_e1] at h
  | cons a args ih =>
    intro o i v h hl
    have hcat := mj_cv_cat b base a
    by_cases hc : a.category = 2
    · have he : mj_e1 (a :: args) = a :: mj_mk :: mj_e1 args := by simp [mj_e1, hc]
      rw [he] at h
      rw [List.map_cons]
      unfold lv_args
      rw [if_pos (by rw [hcat]; exact hc)]
      match i, h with
      | 0, h => cases h; exact List.mem_cons_self
      | 1, h => cases h; cases hl
      | i + 2, h =>
        have := ih (o + 2) i v (by simpa using h) hl
        rw [show o + 2 + i = o + (i + 2) by omega] at this
        exact List.mem_cons_of_mem _ this
    · have he : mj_e1 (a :: args) = a :: mj_e1 args := by simp [mj_e1, hc]
      rw [he] at h
      rw [List.map_cons]
      unfold lv_args
      rw [if_neg (by rw [hcat]; exact hc)]
      match i, h with
      | 0, h => cases h; exact List.mem_cons_self
      | i + 1, h =>
        have := ih (o + 1) i v (by simpa using h) hl
        rw [show o + 1 + i = o + (i + 1) by omega] at this
        exact List.mem_cons_of_mem _ this
theorem mj_ent_len {args : List Value} {nL : Nat} (h : (mj_e1 args).length ≤ nL) : (mj_ent args nL).length = nL := by
  unfold mj_ent
  rw [List.length_append, List.length_replicate]
  omega
theorem mj_sl_len (b base : Nat) (args : List Value) : (lg_sl (args.map (mj_cv b base))).length = (mj_e1 args).length := by
  induction args with
  | nil => rfl
  | cons a args ih =>
    have hcat := mj_cv_cat b base a
    simp only [lg_sl, mj_e1, List.map_cons, List.flatMap_cons, List.length_append] at ih ⊢
    rw [ih]
    by_cases hc : a.category = 2
    · rw [if_pos (by rw [hcat]; exact hc), if_pos hc]; rfl
    · rw [if_neg (by rw [hcat]; exact hc), if_neg hc]; rfl
theorem mj_ent_LR {b base : Nat} {args : List Value} {nL : Nat} (h : (mj_e1 args).length ≤ nL) : mj_LR b base (lg_sl (args.map (mj_cv b base)) ++ List.replicate (nL - (lg_sl (args.map (mj_cv b base))).length) Slot.unset).toArray nL (mj_ent args nL) := by
  have h1 := lv_entry (args.map (mj_cv b base)) (n := nL) (by rw [mj_sl_len]; exact h)
  refine ⟨⟨h1.1, h1.2.1, fun q hq => ?_⟩, mj_ent_len h⟩
  obtain ⟨i, w⟩ := q
  obtain ⟨v, hv, hl, rfl⟩ := mj_as_mem.mp hq
  unfold mj_ent at hv
  by_cases hi : i < (mj_e1 args).length
  · rw [List.getElem?_append_left hi] at hv
    have h2 := mj_e1_args b base args 0 i v hv hl
    rw [Nat.zero_add] at h2
    exact h1.2.2 _ h2
  · rw [List.getElem?_append_right (by omega)] at hv
    have h3 := List.eq_of_mem_replicate (List.mem_of_getElem? hv)
    rw [h3] at hl
    cases hl
