section STEP8
variable {l : Launch} {b base : Nat} {D : va_G} {z : mj_K × (Int32 → Int32)} {M : mj_Md} {p : Program} {e : Env} {R : Room} {s : State} {m : MethodId} {args : Array Value} {below : List Frame} {meth : Method} {c : Code} {Qf : State → Prop} {pc pc' n : Nat} {L L' st st' : List Value} {σ σ' : mj_S} {φ : List Prop}
theorem mj_s_mna {idx : Nat} (A : mj_At b base D z M p R s m args meth c) (hd : decode M.2.2.1 pc = .ok (.multianewarray idx 2, n)) (h : mj_mna M.1 n idx pc L st σ = some (φ, pc', L', st', σ')) (k : mj_Go l b base D z M p e R s m args below meth c Qf pc' L' st' σ') : mj_Go l b base D z M p e R s m args below meth c Qf pc L st σ := by
  sorry
set_option maxHeartbeats 4000000 in
theorem mj_xs {i : Instr} (A : mj_At b base D z M p R s m args meth c) (hd : decode M.2.2.1 pc = .ok (i, n)) (h : mj_x M i n pc L st σ = some (φ, pc', L', st', σ')) (ho : mj_al φ) (k : mj_Go l b base D z M p e R s m args below meth c Qf pc' L' st' σ') : mj_Go l b base D z M p e R s m args below meth c Qf pc L st σ := by
  have A0 := A
  obtain ⟨hx, hb, hml, hr, hown, hts, hlk, hin, hfr, hlo, hK, hN, hAO, hbb, hbs, hdec, hsc⟩ := A
  cases i with
  | iconst v =>
    obtain ⟨rfl, rfl, rfl, rfl, rfl⟩ := mj_x_psh h
    intro H locs ls ca c1 c2 b1 b2 hW hL
    exact lv_iconst hx hb hd rfl (k H locs ls ca c1 c2 b1 b2 hW hL)
  | bipush v =>
    obtain ⟨rfl, rfl, rfl, rfl, rfl⟩ := mj_x_psh h
    intro H locs ls ca c1 c2 b1 b2 hW hL
    exact lv_bipush hx hb hd rfl (k H locs ls ca c1 c2 b1 b2 hW hL)
  | sipush v =>
    obtain ⟨rfl, rfl, rfl, rfl, rfl⟩ := mj_x_psh h
    intro H locs ls ca c1 c2 b1 b2 hW hL
    exact lv_sipush hx hb hd rfl (k H locs ls ca c1 c2 b1 b2 hW hL)
  | lconst v =>
    obtain ⟨rfl, rfl, rfl, rfl, rfl⟩ := mj_x_psh h
    intro H locs ls ca c1 c2 b1 b2 hW hL
    exact lv_lconst hx hb hd rfl (k H locs ls ca c1 c2 b1 b2 hW hL)
  | ldc2_w idx =>
    simp only [mj_x] at h
    split at h
    · next v hv =>
      obtain ⟨rfl, rfl, rfl, rfl, rfl⟩ := mj_x_psh h
      intro H locs ls ca c1 c2 b1 b2 hW hL
      exact lv_ldc2 hx hb hown (hts _ (mj_pl_ok hv)) hd (k H locs ls ca c1 c2 b1 b2 hW hL)
    · cases h
  | ldc_w idx =>
    simp only [mj_x] at h
    split at h
    · next v hv =>
      obtain ⟨rfl, rfl, rfl, rfl, rfl⟩ := mj_x_psh h
      intro H locs ls ca c1 c2 b1 b2 hW hL
      exact lv_ldcw hx hb hown (hts _ (mj_pi_ok hv)) hd (k H locs ls ca c1 c2 b1 b2 hW hL)
    · cases h
  | iload_n j =>
    obtain ⟨x, hg, rfl, rfl, rfl, rfl, rfl⟩ := mj_x_ild h
    intro H locs ls ca c1 c2 b1 b2 hW hL
    exact lv_iload_n hx hb hd rfl (hL.get hg rfl) (k H locs ls ca c1 c2 b1 b2 hW hL)
  | iload j =>
    obtain ⟨x, hg, rfl, rfl, rfl, rfl, rfl⟩ := mj_x_ild h
    intro H locs ls ca c1 c2 b1 b2 hW hL
    exact lv_iload hx hb hd (hL.get hg rfl) (k H locs ls ca c1 c2 b1 b2 hW hL)
  | lload_n j =>
    obtain ⟨x, hg, rfl, rfl, rfl, rfl, rfl⟩ := mj_x_lld h
    intro H locs ls ca c1 c2 b1 b2 hW hL
    exact lv_lload_n hx hb hd rfl (hL.get hg rfl) (k H locs ls ca c1 c2 b1 b2 hW hL)
  | lload j =>
    obtain ⟨x, hg, rfl, rfl, rfl, rfl, rfl⟩ := mj_x_lld h
    intro H locs ls ca c1 c2 b1 b2 hW hL
    exact lv_lload hx hb hd (hL.get hg rfl) (k H locs ls ca c1 c2 b1 b2 hW hL)
  | aload_n j =>
    obtain ⟨x, hg, rfl, rfl, rfl, rfl, rfl⟩ := mj_x_ald h
    intro H locs ls ca c1 c2 b1 b2 hW hL
    exact lv_aload_n hx hb hd rfl (hL.get hg rfl) (k H locs ls ca c1 c2 b1 b2 hW hL)
  | aload j =>
    obtain ⟨x, hg, rfl, rfl, rfl, rfl, rfl⟩ := mj_x_ald h
    intro H locs ls ca c1 c2 b1 b2 hW hL
    exact lv_aload hx hb hd (hL.get hg rfl) (k H locs ls ca c1 c2 b1 b2 hW hL)
  | istore_n j =>
    obtain ⟨x, rest, rfl, hok, hlt, rfl, rfl, rfl, rfl, rfl⟩ := mj_x_ist h
    intro H locs ls ca c1 c2 b1 b2 hW hL
    exact lv_istore_n hx hb hd rfl hL.1 (by rw [← hL.2]; exact hlt) rfl (fun ls' hl' => k H locs ls' ca c1 c2 b1 b2 hW (hL.set1 (v := .int x) hok hl'))
  | istore j =>
    obtain ⟨x, rest, rfl, hok, hlt, rfl, rfl, rfl, rfl, rfl⟩ := mj_x_ist h
    intro H locs ls ca c1 c2 b1 b2 hW hL
    exact lv_istore hx hb hd hL.1 (by rw [← hL.2]; exact hlt) rfl (fun ls' hl' => k H locs ls' ca c1 c2 b1 b2 hW (hL.set1 (v := .int x) hok hl'))
  | astore_n j =>
    obtain ⟨x, rest, rfl, hok, hlt, rfl, rfl, rfl, rfl, rfl⟩ := mj_x_ast h
    intro H locs ls ca c1 c2 b1 b2 hW hL
    exact lv_astore_n hx hb hd rfl hL.1 (by rw [← hL.2]; exact hlt) rfl (fun ls' hl' => k H locs ls' ca c1 c2 b1 b2 hW (hL.set1 (v := .ref x) hok hl'))
  | astore j =>
    obtain ⟨x, rest, rfl, hok, hlt, rfl, rfl, rfl, rfl, rfl⟩ := mj_x_ast h
    intro H locs ls ca c1 c2 b1 b2 hW hL
    exact lv_astore hx hb hd hL.1 (by rw [← hL.2]; exact hlt) rfl (fun ls' hl' => k H locs ls' ca c1 c2 b1 b2 hW (hL.set1 (v := .ref x) hok hl'))
  | lstore_n j =>
    obtain ⟨x, rest, rfl, hok, hlt, rfl, rfl, rfl, rfl, rfl⟩ := mj_x_lst h
    intro H locs ls ca c1 c2 b1 b2 hW hL
    exact lv_lstore_n hx hb hd rfl hL.1 (by rw [← hL.2]; exact hlt) rfl (fun ls' hl' => k H locs ls' ca c1 c2 b1 b2 hW (hL.set2 hok hl'))
  | lstore j =>
    obtain ⟨x, rest, rfl, hok, hlt, rfl, rfl, rfl, rfl, rfl⟩ := mj_x_lst h
    intro H locs ls ca c1 c2 b1 b2 hW hL
    exact lv_lstore hx hb hd hL.1 (by rw [← hL.2]; exact hlt) rfl (fun ls' hl' => k H locs ls' ca c1 c2 b1 b2 hW (hL.set2 hok hl'))
  | iinc j v =>
    simp only [mj_x] at h
    split at h
    · next x hg =>
      obtain ⟨hok, h2⟩ := mj_if h
      obtain ⟨rfl, h4⟩ := mj_g_spec h2
      cases h4
      intro H locs ls ca c1 c2 b1 b2 hW hL
      obtain ⟨q, hq⟩ := List.getElem?_of_mem (mj_as_mem (b := b) (base := base).mpr ⟨_, hg, rfl, rfl⟩)
      exact lv_iinc hx hb hd hL.1 hq rfl (by rw [← hL.2]; exact (List.getElem?_eq_some_iff.mp hg).1) rfl (fun ls' hl' => k H locs ls' ca c1 c2 b1 b2 hW (hL.set1 (v := .int (x + Int32.ofInt v)) hok hl'))
    · cases h
  | iadd =>
    obtain ⟨x, y, rest, rfl, rfl, rfl, rfl, rfl, rfl⟩ := mj_x_bin h
    intro H locs ls ca c1 c2 b1 b2 hW hL
    exact lv_iadd hx hb hd (k H locs ls ca c1 c2 b1 b2 hW hL)
  | isub =>
    obtain ⟨x, y, rest, rfl, rfl, rfl, rfl, rfl, rfl⟩ := mj_x_bin h
    intro H locs ls ca c1 c2 b1 b2 hW hL
    exact lv_isub hx hb hd (k H locs ls ca c1 c2 b1 b2 hW hL)
  | imul =>
    obtain ⟨x, y, rest, rfl, rfl, rfl, rfl, rfl, rfl⟩ := mj_x_bin h
    intro H locs ls ca c1 c2 b1 b2 hW hL
    exact lv_imul hx hb hd (k H locs ls ca c1 c2 b1 b2 hW hL)
  | iand =>
    obtain ⟨x, y, rest, rfl, rfl, rfl, rfl, rfl, rfl⟩ := mj_x_bin h
    intro H locs ls ca c1 c2 b1 b2 hW hL
    exact lv_iand hx hb hd (k H locs ls ca c1 c2 b1 b2 hW hL)
  | ior =>
    obtain ⟨x, y, rest, rfl, rfl, rfl, rfl, rfl, rfl⟩ := mj_x_bin h
    intro H locs ls ca c1 c2 b1 b2 hW hL
    exact lv_ior hx hb hd (k H locs ls ca c1 c2 b1 b2 hW hL)
  | ixor =>
    obtain ⟨x, y, rest, rfl, rfl, rfl, rfl, rfl, rfl⟩ := mj_x_bin h
    intro H locs ls ca c1 c2 b1 b2 hW hL
    exact lv_ixor hx hb hd (k H locs ls ca c1 c2 b1 b2 hW hL)
  | ishl =>
    obtain ⟨x, y, rest, rfl, rfl, rfl, rfl, rfl, rfl⟩ := mj_x_bin h
    intro H locs ls ca c1 c2 b1 b2 hW hL
    exact lv_ishl hx hb hd (k H locs ls ca c1 c2 b1 b2 hW hL)
  | ishr =>
    obtain ⟨x, y, rest, rfl, rfl, rfl, rfl, rfl, rfl⟩ := mj_x_bin h
    intro H locs ls ca c1 c2 b1 b2 hW hL
    exact lv_ishr hx hb hd (k H locs ls ca c1 c2 b1 b2 hW hL)
  | iushr =>
    obtain ⟨x, y, rest, rfl, rfl, rfl, rfl, rfl, rfl⟩ := mj_x_bin h
    intro H locs ls ca c1 c2 b1 b2 hW hL
    exact lv_iushr hx hb hd rfl (k H locs ls ca c1 c2 b1 b2 hW hL)
  | idiv =>
    obtain ⟨x, y, rest, rfl, hne, rfl, rfl, rfl, rfl, rfl⟩ := mj_x_dvi h ho
    intro H locs ls ca c1 c2 b1 b2 hW hL
    exact lv_idiv hx hb hd hne (k H locs ls ca c1 c2 b1 b2 hW hL)
  | irem =>
    obtain ⟨x, y, rest, rfl, hne, rfl, rfl, rfl, rfl, rfl⟩ := mj_x_dvi h ho
    intro H locs ls ca c1 c2 b1 b2 hW hL
    exact lv_irem hx hb hd hne (k H locs ls ca c1 c2 b1 b2 hW hL)
  | ldiv =>
    obtain ⟨x, y, rest, rfl, hne, rfl, rfl, rfl, rfl, rfl⟩ := mj_x_dvl h ho
    intro H locs ls ca c1 c2 b1 b2 hW hL
    exact lv_ldiv hx hb hd hne (k H locs ls ca c1 c2 b1 b2 hW hL)
  | lrem =>
    obtain ⟨x, y, rest, rfl, hne, rfl, rfl, rfl, rfl, rfl⟩ := mj_x_dvl h ho
    intro H locs ls ca c1 c2 b1 b2 hW hL
    exact lv_lrem hx hb hd hne (k H locs ls ca c1 c2 b1 b2 hW hL)
  | ineg =>
    obtain ⟨x, rest, rfl, rfl, rfl, rfl, rfl, rfl⟩ := mj_x_un h
    intro H locs ls ca c1 c2 b1 b2 hW hL
    exact lv_ineg hx hb hd (k H locs ls ca c1 c2 b1 b2 hW hL)
  | i2b =>
    obtain ⟨x, rest, rfl, rfl, rfl, rfl, rfl, rfl⟩ := mj_x_un h
    intro H locs ls ca c1 c2 b1 b2 hW hL
    exact lv_i2b hx hb hd rfl (k H locs ls ca c1 c2 b1 b2 hW hL)
  | i2s =>
    obtain ⟨x, rest, rfl, rfl, rfl, rfl, rfl, rfl⟩ := mj_x_un h
    intro H locs ls ca c1 c2 b1 b2 hW hL
    exact lv_i2s hx hb hd rfl (k H locs ls ca c1 c2 b1 b2 hW hL)
  | i2l =>
    simp only [mj_x] at h
    split at h
    · next x rest =>
      obtain ⟨rfl, h4⟩ := mj_g_spec h
      cases h4
      intro H locs ls ca c1 c2 b1 b2 hW hL
      exact lv_i2l hx hb hd rfl (k H locs ls ca c1 c2 b1 b2 hW hL)
    · cases h
  | lcmp =>
    simp only [mj_x] at h
    split at h
    · next y x rest =>
      obtain ⟨rfl, h4⟩ := mj_g_spec h
      cases h4
      intro H locs ls ca c1 c2 b1 b2 hW hL
      exact W.lcmp hx hb hd (k H locs ls ca c1 c2 b1 b2 hW hL)
    · cases h
  | dup =>
    simp only [mj_x] at h
    split at h
    · next v rest =>
      obtain ⟨h1, h2⟩ := mj_if h
      obtain ⟨rfl, h4⟩ := mj_g_spec h2
      cases h4
      intro H locs ls ca c1 c2 b1 b2 hW hL
      exact lv_dup hx hb hd (by rw [mj_cv_cat]; exact Nat.eq_of_beq_eq_true h1) (k H locs ls ca c1 c2 b1 b2 hW hL)
    · cases h
  | dup2 =>
    simp only [mj_x] at h
    split at h
    · next v w rest =>
      obtain ⟨h1, h2⟩ := mj_if h
      obtain ⟨rfl, h4⟩ := mj_g_spec h2
      cases h4
      simp only [Bool.and_eq_true] at h1
      intro H locs ls ca c1 c2 b1 b2 hW hL
      exact lv_dup2_11 hx hb hd (by rw [mj_cv_cat]; exact Nat.eq_of_beq_eq_true h1.1) (by rw [mj_cv_cat]; exact Nat.eq_of_beq_eq_true h1.2) (k H locs ls ca c1 c2 b1 b2 hW hL)
    · cases h
  | goto off =>
    simp only [mj_x, mj_jmp] at h
    split at h
    · next t ht =>
      obtain ⟨rfl, h4⟩ := mj_g_spec h
      cases h4
      intro H locs ls ca c1 c2 b1 b2 hW hL
      exact lv_goto hx hb hd (mj_tg_spec ht) (k H locs ls ca c1 c2 b1 b2 hW hL)
    · cases h
  | getfield idx => exact mj_s_getf A0 hd h k
  | putfield idx => exact mj_s_putf A0 hd h ho k
  | iaload => exact mj_s_iald A0 hd h ho k
  | iastore => exact mj_s_iast A0 hd h ho k
  | aaload => exact mj_s_aald A0 hd h ho k
  | aastore => exact mj_s_aast A0 hd h ho k
  | arraylength => exact mj_s_alen A0 hd h k
  | new idx => exact mj_s_new A0 hd h k
  | newarray t =>
    cases t with
    | int => exact mj_s_newa A0 hd h k
    | _ =>
      have h2 : (none : Option mj_R1) = some (φ, pc', L', st', σ') := h
      cases h2
  | anewarray idx => exact mj_s_anew A0 hd h k
  | multianewarray idx d =>
    simp only [mj_x] at h
    obtain ⟨h1, h2⟩ := mj_if h
    have hd2 := Nat.eq_of_beq_eq_true h1
    subst hd2
    exact mj_s_mna A0 hd h2 k
  | invokespecial idx => exact mj_s_oin A0 hd h k
  | invokestatic idx => exact mj_s_sta A0 hd h ho k
  | tableswitch d lo hi offs => exact mj_s_tsw A0 hd h k
  | lookupswitch d ps => exact mj_s_lsw A0 hd h k
  | _ =>
    have h2 : (none : Option mj_R1) = some (φ, pc', L', st', σ') := h
    cases h2
theorem mj_ss (A : mj_At b base D z M p R s m args meth c) (h : mj_s M pc L st σ = some (φ, pc', L', st', σ')) (ho : mj_al φ) (k : mj_Go l b base D z M p e R s m args below meth c Qf pc' L' st' σ') : mj_Go l b base D z M p e R s m args below meth c Qf pc L st σ := by
  unfold mj_s at h
  split at h
  · next i n ht =>
    have hdec : mj_Dec M := A.2.2.2.2.2.2.2.2.2.2.2.2.2.2.2.1
    exact mj_xs A (hdec pc (i, n) ht) h ho k
  · cases h
theorem mj_al_app {φ ψ : List Prop} (h : mj_al (φ ++ ψ)) : mj_al φ ∧ mj_al ψ := by
  induction φ with
  | nil => exact ⟨trivial, h⟩
  | cons a φ ih => exact ⟨⟨h.1, (ih h.2).1⟩, (ih h.2).2⟩
theorem mj_runs (A : mj_At b base D z M p R s m args meth c) : ∀ (k : Nat) (pc : Nat) (L st : List Value) (σ : mj_S) (φ : List Prop), mj_run k M pc L st σ = some (φ, pc', L', st', σ') → mj_al φ → mj_Go l b base D z M p e R s m args below meth c Qf pc' L' st' σ' → mj_Go l b base D z M p e R s m args below meth c Qf pc L st σ := by
  intro k
  induction k with
  | zero =>
    intro pc L st σ φ h _ kk
    cases h
    exact kk
  | succ k ih =>
    intro pc L st σ φ h ho kk
    unfold mj_run at h
    split at h
    · next φ1 pc1 L1 st1 σ1 h1 =>
      split at h
      · next ψ r h2 =>
        cases h
        obtain ⟨o1, o2⟩ := mj_al_app ho
        exact mj_ss A h1 o1 (ih pc1 L1 st1 σ1 ψ h2 o2 kk)
      · cases h
    · cases h
end STEP8
