/-! the small machine: numbered cells, whole numbers and references apart; one instruction a step -/
abbrev mj_K : Type := Nat ⊕ (Nat × Nat)
abbrev mj_I : Type := Nat → Int32 → Int32
abbrev mj_P : Type := Nat → Int32 → Option Nat
abbrev mj_S : Type := (Nat × (Nat → mj_K) × (Nat × Nat) × (Nat × Nat)) × mj_I × mj_P
abbrev mj_R1 : Type := List Prop × Nat × List Value × List Value × mj_S
def mj_ad (b base : Nat) : Nat → Nat
  | 0 => b
  | k + 1 => base + k
def mj_cv (b base : Nat) : Value → Value
  | .ref k => .ref (mj_ad b base k)
  | v => v
def mj_fv (b base ci : Nat) (I : Int32 → Int32) (P : Int32 → Option Nat) (f : Nat) : Value := bif Nat.beq (mj_ft ci f) 2 then va_rf ((P (nI f)).map (mj_ad b base)) else .int (I (nI f))
def mj_ce (b base : Nat) (ca : Nat → ClassId) (K : Nat → mj_K) (I : mj_I) (P : mj_P) (k : Nat) : va_E := match K k with
  | .inl ci => .inr (ci, (List.range (mj_nf ci)).map (mj_fv b base ci (I k) (P k)))
  | .inr (0, n) => .inl (ca k, n, .inl (fun j => if j < n then I k (nI j) else 0))
  | .inr (_ + 1, n) => .inl (ca k, n, .inr (.inr (.inr (.inr (fun j => if j < n then (P k (nI j)).map (mj_ad b base) else none)))))
def mj_wl (b base : Nat) (ca : Nat → ClassId) (σ : mj_S) : va_W := (List.range σ.1.1).map (fun k => (base + k, mj_ce b base ca σ.1.2.1 σ.2.1 σ.2.2 (k + 1)))
def mj_aty : Nat → FieldType
  | 0 => .int
  | 1 => .array .int
  | _ => .object RX4
def mj_KA (ca : Nat → ClassId) (σ : mj_S) (U : State) : Prop := ∀ k t n, k < σ.1.1 → σ.1.2.1 (k + 1) = .inr (t, n) → ArrOfT U (ca (k + 1)) (mj_aty t) ∧ va_RA U (ca (k + 1)) (mj_aty t)
def mj_upI (I : mj_I) (a : Nat) (i v : Int32) : mj_I := fun x y => bif Nat.beq x a then (if y = i then v else I x y) else I x y
def mj_upP (P : mj_P) (a : Nat) (i : Int32) (v : Option Nat) : mj_P := fun x y => bif Nat.beq x a then (if y = i then v else P x y) else P x y
def mj_rwI (I : mj_I) (a : Nat) (g : Int32 → Int32) : mj_I := fun x y => bif Nat.beq x a then g y else I x y
def mj_rwP (P : mj_P) (a : Nat) (g : Int32 → Option Nat) : mj_P := fun x y => bif Nat.beq x a then g y else P x y
def mj_upK (K : Nat → mj_K) (a : Nat) (v : mj_K) : Nat → mj_K := fun x => bif Nat.beq x a then v else K x
/-- an index that is inside -/
def mj_in (i : Int32) (n : Nat) : Prop := 0 ≤ i.toInt ∧ i.toInt < (n : Int)
def mj_mk : Value := .retAddr 0
def mj_live : Value → Bool
  | .retAddr _ => false
  | _ => true
def mj_ok (L : List Value) : Nat → Bool
  | 0 => true
  | j + 1 => match L[j]? with
    | some v => Nat.beq v.category 1
    | none => true
def mj_g {α : Type} (n k : Nat) (r : α) : Option α := bif Nat.beq n k then some r else none
def mj_tg (pc : Nat) (off : Int) : Option Nat := match (pc : Int) + off with
  | .ofNat t => some t
  | .negSucc _ => none
def mj_hs (σ : mj_S) (a : Nat) : Bool := Nat.blt 0 a && Nat.ble a σ.1.1
def mj_rv : Option Nat → Value
  | some a => .ref a
  | none => .null
def mj_isO (σ : mj_S) (a ci : Nat) : Bool := mj_hs σ a && (match σ.1.2.1 a with | .inl c => Nat.beq c ci | _ => false)
def mj_psh (n k pc : Nat) (L : List Value) (v : Value) (st : List Value) (σ : mj_S) : Option mj_R1 := mj_g n k ([], pc + k, L, v :: st, σ)
def mj_ild (n k pc i : Nat) (L st : List Value) (σ : mj_S) : Option mj_R1 := match L[i]? with
  | some (.int x) => mj_psh n k pc L (.int x) st σ
  | _ => none
def mj_lld (n k pc i : Nat) (L st : List Value) (σ : mj_S) : Option mj_R1 := match L[i]? with
  | some (.long x) => mj_psh n k pc L (.long x) st σ
  | _ => none
def mj_ald (n k pc i : Nat) (L st : List Value) (σ : mj_S) : Option mj_R1 := match L[i]? with
  | some (.ref x) => mj_psh n k pc L (.ref x) st σ
  | _ => none
def mj_ist (n k pc i : Nat) (L st : List Value) (σ : mj_S) : Option mj_R1 := match st with
  | .int x :: rest => bif mj_ok L i && Nat.blt i L.length then mj_g n k ([], pc + k, L.set i (.int x), rest, σ) else none
  | _ => none
def mj_ast (n k pc i : Nat) (L st : List Value) (σ : mj_S) : Option mj_R1 := match st with
  | .ref x :: rest => bif mj_ok L i && Nat.blt i L.length then mj_g n k ([], pc + k, L.set i (.ref x), rest, σ) else none
  | _ => none
def mj_lst (n k pc i : Nat) (L st : List Value) (σ : mj_S) : Option mj_R1 := match st with
  | .long x :: rest => bif mj_ok L i && Nat.blt (i + 1) L.length then mj_g n k ([], pc + k, (L.set i (.long x)).set (i + 1) mj_mk, rest, σ) else none
  | _ => none
def mj_bin (f : Int32 → Int32 → Int32) (n pc : Nat) (L st : List Value) (σ : mj_S) : Option mj_R1 := match st with
  | .int y :: .int x :: rest => mj_g n 1 ([], pc + 1, L, .int (f x y) :: rest, σ)
  | _ => none
def mj_dvi (f : Int32 → Int32 → Int32) (n pc : Nat) (L st : List Value) (σ : mj_S) : Option mj_R1 := match st with
  | .int y :: .int x :: rest => mj_g n 1 ([¬ y = 0], pc + 1, L, .int (f x y) :: rest, σ)
  | _ => none
def mj_dvl (f : Int64 → Int64 → Int64) (n pc : Nat) (L st : List Value) (σ : mj_S) : Option mj_R1 := match st with
  | .long y :: .long x :: rest => mj_g n 1 ([¬ y = 0], pc + 1, L, .long (f x y) :: rest, σ)
  | _ => none
def mj_un (f : Int32 → Int32) (n pc : Nat) (L st : List Value) (σ : mj_S) : Option mj_R1 := match st with
  | .int x :: rest => mj_g n 1 ([], pc + 1, L, .int (f x) :: rest, σ)
  | _ => none
def mj_jmp (n k pc : Nat) (off : Int) (L st : List Value) (σ : mj_S) : Option mj_R1 := match mj_tg pc off with
  | some t => mj_g n k ([], t, L, st, σ)
  | none => none
def mj_getf (cn n idx pc : Nat) (L st : List Value) (σ : mj_S) : Option mj_R1 := match st, mj_pf cn idx with
  | .ref a :: rest, some (ci, f) => bif mj_isO σ a ci then mj_g n 3 ([], pc + 3, L, (bif Nat.beq (mj_ft ci f) 2 then mj_rv (σ.2.2 a (nI f)) else .int (σ.2.1 a (nI f))) :: rest, σ) else none
  | _, _ => none
/-- a field that may be written: not final, or in a constructor of its own class -/
def mj_wr (M : mj_Md) (idx ci f : Nat) : Bool := bif (mj_T ci f).2.2.2 then decide (M.2.1.name = "<init>") && (Nat.beq M.1 ci && (mj_pfw M.1 idx).2.isNone) else true
def mj_putf (M : mj_Md) (n idx pc : Nat) (L st : List Value) (σ : mj_S) : Option mj_R1 := match st, mj_pf M.1 idx with
  | .int v :: .ref a :: rest, some (ci, f) => bif mj_isO σ a ci && mj_wr M idx ci f then
      (bif Nat.beq (mj_ft ci f) 0 then mj_g n 3 ([], pc + 3, L, rest, (σ.1, mj_upI σ.2.1 a (nI f) v, σ.2.2))
       else bif Nat.beq (mj_ft ci f) 1 then mj_g n 3 ([v = 0 ∨ v = 1], pc + 3, L, rest, (σ.1, mj_upI σ.2.1 a (nI f) v, σ.2.2)) else none) else none
  | .ref v :: .ref a :: rest, some (ci, f) => bif mj_isO σ a ci && mj_wr M idx ci f then
      (bif Nat.beq (mj_ft ci f) 2 then mj_g n 3 ([], pc + 3, L, rest, (σ.1, σ.2.1, mj_upP σ.2.2 a (nI f) (some v))) else none) else none
  | _, _ => none
def mj_iald (n pc : Nat) (L st : List Value) (σ : mj_S) : Option mj_R1 := match st with
  | .int i :: .ref a :: rest => match σ.1.2.1 a with
    | .inr (0, N) => bif mj_hs σ a then mj_g n 1 ([mj_in i N], pc + 1, L, .int (σ.2.1 a i) :: rest, σ) else none
    | .inr (9, N) => bif Nat.beq a 0 then mj_g n 1 ([mj_in i N], pc + 1, L, .int (σ.2.1 a i) :: rest, σ) else none
    | _ => none
  | _ => none
def mj_iast (n pc : Nat) (L st : List Value) (σ : mj_S) : Option mj_R1 := match st with
  | .int v :: .int i :: .ref a :: rest => match σ.1.2.1 a with
    | .inr (0, N) => bif mj_hs σ a && Nat.blt N 2147483648 then mj_g n 1 ([mj_in i N], pc + 1, L, rest, (σ.1, mj_upI σ.2.1 a i v, σ.2.2)) else none
    | _ => none
  | _ => none
def mj_aald (n pc : Nat) (L st : List Value) (σ : mj_S) : Option mj_R1 := match st with
  | .int i :: .ref a :: rest => match σ.1.2.1 a with
    | .inr (1, N) => bif mj_hs σ a then mj_g n 1 ([mj_in i N], pc + 1, L, mj_rv (σ.2.2 a i) :: rest, σ) else none
    | .inr (2, N) => bif mj_hs σ a then mj_g n 1 ([mj_in i N], pc + 1, L, mj_rv (σ.2.2 a i) :: rest, σ) else none
    | _ => none
  | _ => none
def mj_aast (n pc : Nat) (L st : List Value) (σ : mj_S) : Option mj_R1 := match st with
  | .ref v :: .int i :: .ref a :: rest => match σ.1.2.1 a with
    | .inr (2, N) => bif mj_hs σ a && (mj_isO σ v 4 && Nat.blt N 2147483648) then mj_g n 1 ([mj_in i N], pc + 1, L, rest, (σ.1, σ.2.1, mj_upP σ.2.2 a i (some v))) else none
    | _ => none
  | _ => none
def mj_alen (n pc : Nat) (L st : List Value) (σ : mj_S) : Option mj_R1 := match st with
  | .ref a :: rest => match σ.1.2.1 a with
    | .inr (0, N) => bif mj_hs σ a then mj_g n 1 ([], pc + 1, L, .int (nI N) :: rest, σ) else none
    | .inr (9, N) => bif Nat.beq a 0 then mj_g n 1 ([], pc + 1, L, .int (nI N) :: rest, σ) else none
    | _ => none
  | _ => none
/-- a new cell: its number is the next -/
def mj_add (σ : mj_S) (kd : mj_K) (sl : Nat) : mj_S := ((σ.1.1 + 1, mj_upK σ.1.2.1 (σ.1.1 + 1) kd, (σ.1.2.2.1.1 + 1, σ.1.2.2.1.2 + sl), σ.1.2.2.2), mj_rwI σ.2.1 (σ.1.1 + 1) (fun _ => 0), mj_rwP σ.2.2 (σ.1.1 + 1) (fun _ => none))
def mj_fit (σ : mj_S) (c s : Nat) : Bool := Nat.ble (σ.1.2.2.1.1 + c) σ.1.2.2.2.1 && Nat.ble (σ.1.2.2.1.2 + s) σ.1.2.2.2.2
def mj_new (cn n idx pc : Nat) (L st : List Value) (σ : mj_S) : Option mj_R1 := match mj_pn cn idx with
  | some ci => bif mj_fit σ 1 (mj_nf ci) then mj_g n 3 ([], pc + 3, L, .ref (σ.1.1 + 1) :: st, mj_add σ (.inl ci) (mj_nf ci)) else none
  | none => none
def mj_newa (n pc : Nat) (L st : List Value) (σ : mj_S) : Option mj_R1 := match st with
  | .int k :: rest => bif decide (¬ k < 0) && (Nat.ble (k.toNatClampNeg * 4) 536870912 && mj_fit σ 1 k.toNatClampNeg) then
      mj_g n 2 ([], pc + 2, L, .ref (σ.1.1 + 1) :: rest, mj_add σ (.inr (0, k.toNatClampNeg)) k.toNatClampNeg) else none
  | _ => none
def mj_anew (cn n idx pc : Nat) (L st : List Value) (σ : mj_S) : Option mj_R1 := match st with
  | .int k :: rest => bif decide (mj_pn cn idx = some 4) && (decide (¬ k < 0) && (Nat.ble (k.toNatClampNeg * 4) 536870912 && mj_fit σ 1 k.toNatClampNeg)) then
      mj_g n 3 ([], pc + 3, L, .ref (σ.1.1 + 1) :: rest, mj_add σ (.inr (2, k.toNatClampNeg)) k.toNatClampNeg) else none
  | _ => none
/-- int[3][3] -/
def mj_mna (cn n idx pc : Nat) (L st : List Value) (σ : mj_S) : Option mj_R1 := match st with
  | .int k :: .int m :: rest => bif decide (k = 3 ∧ m = 3) && (Nat.beq cn 1 && (Nat.beq idx 28 && mj_fit σ 4 12)) then
      mj_g n 4 ([], pc + 4, L, .ref (σ.1.1 + 1) :: rest,
        ((σ.1.1 + 4, mj_upK (mj_upK (mj_upK (mj_upK σ.1.2.1 (σ.1.1 + 1) (.inr (1, 3))) (σ.1.1 + 2) (.inr (0, 3))) (σ.1.1 + 3) (.inr (0, 3))) (σ.1.1 + 4) (.inr (0, 3)), (σ.1.2.2.1.1 + 4, σ.1.2.2.1.2 + 12), σ.1.2.2.2),
          mj_rwI (mj_rwI (mj_rwI (mj_rwI σ.2.1 (σ.1.1 + 1) (fun _ => 0)) (σ.1.1 + 2) (fun _ => 0)) (σ.1.1 + 3) (fun _ => 0)) (σ.1.1 + 4) (fun _ => 0),
          mj_rwP (mj_rwP (mj_rwP (mj_rwP σ.2.2 (σ.1.1 + 1) (fun i => if i = 0 then some (σ.1.1 + 2) else if i = 1 then some (σ.1.1 + 3) else if i = 2 then some (σ.1.1 + 4) else none)) (σ.1.1 + 2) (fun _ => none)) (σ.1.1 + 3) (fun _ => none)) (σ.1.1 + 4) (fun _ => none))) else none
  | _ => none
def mj_cs (st : List Value) : Nat := (st.map fun v => v.category).sum
def mj_oin (M : mj_Md) (n idx pc : Nat) (L st : List Value) (σ : mj_S) : Option mj_R1 := match st with
  | .ref _ :: rest => bif mj_po M.1 idx && (Nat.ble 1 M.2.2.2.2.2.1.1 && Nat.ble (mj_cs rest + 12) M.2.2.2.2.2.1.2.1) then mj_g n 3 ([], pc + 3, L, rest, σ) else none
  | _ => none
/-- Math.abs, max, min -/
def mj_pq (cn i : Nat) : Nat := match mj_pm cn i with
  | some (mid, _) => bif (mj_pmw cn i).2.isNone then (bif Nat.beq mid 158 then 1 else bif Nat.beq mid 159 then 2 else bif Nat.beq mid 160 then 3 else 0) else 0
  | none => 0
def mj_abs (x : Int32) : Int32 := if 0 ≤ x then x else 0 - x
def mj_max (x y : Int32) : Int32 := if x < y then y else x
def mj_min (x y : Int32) : Int32 := if y < x then y else x
def mj_cpy (I : mj_I) (a d : Nat) (sp dp n : Int32) : mj_I := mj_rwI I d (fun i => if dp.toInt ≤ i.toInt ∧ i.toInt < dp.toInt + n.toInt then I a (i - dp + sp) else I d i)
def mj_cpx (n pc : Nat) (L st : List Value) (σ : mj_S) : Option mj_R1 := match st with
  | .int k :: .int dp :: .ref d :: .int sp :: .ref a :: rest => (match σ.1.2.1 a, σ.1.2.1 d with
    | .inr (0, na), .inr (0, nd) => bif mj_hs σ a && mj_hs σ d then
        mj_g n 3 ([0 ≤ sp.toInt ∧ 0 ≤ dp.toInt ∧ 0 ≤ k.toInt ∧ sp.toInt + k.toInt ≤ (na : Int) ∧ dp.toInt + k.toInt ≤ (nd : Int) ∧ (na : Int) < 2147483648 ∧ (nd : Int) < 2147483648], pc + 3, L, rest, (σ.1, mj_cpy σ.2.1 a d sp dp k, σ.2.2)) else none
    | _, _ => none)
  | _ => none
def mj_mt1 (n pc : Nat) (L st : List Value) (σ : mj_S) : Option mj_R1 := match st with
  | .int x :: rest => mj_g n 3 ([], pc + 3, L, .int (mj_abs x) :: rest, σ)
  | _ => none
def mj_mt2 (f : Int32 → Int32 → Int32) (n pc : Nat) (L st : List Value) (σ : mj_S) : Option mj_R1 := match st with
  | .int y :: .int x :: rest => mj_g n 3 ([], pc + 3, L, .int (f x y) :: rest, σ)
  | _ => none
def mj_sta (M : mj_Md) (n idx pc : Nat) (L st : List Value) (σ : mj_S) : Option mj_R1 :=
  bif Nat.ble 1 M.2.2.2.2.2.1.1 && Nat.ble (mj_cs st + 20) M.2.2.2.2.2.1.2.1 then
    (bif mj_pa M.1 idx then mj_cpx n pc L st σ
    else bif Nat.beq (mj_pq M.1 idx) 1 then mj_mt1 n pc L st σ
    else bif Nat.beq (mj_pq M.1 idx) 2 then mj_mt2 mj_max n pc L st σ
    else bif Nat.beq (mj_pq M.1 idx) 3 then mj_mt2 mj_min n pc L st σ
    else none)
  else none
def mj_tsw (pc : Nat) (dflt lo hi : Int) (offs : Array Int) (L st : List Value) (σ : mj_S) : Option mj_R1 := match st with
  | .int x :: rest => bif decide (x.toInt < lo) || decide (hi < x.toInt) then (match mj_tg pc dflt with | some t => some ([], t, L, rest, σ) | none => none)
      else (match offs[(x.toInt - lo).toNat]? with
        | some o => (match mj_tg pc o with | some t => some ([], t, L, rest, σ) | none => none)
        | none => none)
  | _ => none
def mj_lsw (pc : Nat) (dflt : Int) (ps : Array (Int × Int)) (L st : List Value) (σ : mj_S) : Option mj_R1 := match st with
  | .int x :: rest => bif (ps.toList.zip (ps.toList.drop 1)).all (fun (a, next) => a.1 < next.1) then (match mj_tg pc (Op.lookupswitch.offset ps.toList dflt x.toInt) with | some t => some ([], t, L, rest, σ) | none => none) else none
  | _ => none
/-- one instruction, straight on -/
def mj_x (M : mj_Md) (i : Instr) (n pc : Nat) (L st : List Value) (σ : mj_S) : Option mj_R1 := match i with
  | .iconst v => mj_psh n 1 pc L (.int (Int32.ofInt v)) st σ
  | .bipush v => mj_psh n 2 pc L (.int (Int8.ofInt v).toInt32) st σ
  | .sipush v => mj_psh n 3 pc L (.int (Int16.ofInt v).toInt32) st σ
  | .lconst k => mj_psh n 1 pc L (.long (Int64.ofNat (k : Nat))) st σ
  | .ldc2_w idx => (match mj_pl M.1 idx with | some v => mj_psh n 3 pc L (.long v) st σ | none => none)
  | .ldc_w idx => (match mj_pi M.1 idx with | some v => mj_psh n 3 pc L (.int v) st σ | none => none)
  | .iload_n k => mj_ild n 1 pc k L st σ
  | .iload k => mj_ild n 2 pc k L st σ
  | .lload_n k => mj_lld n 1 pc k L st σ
  | .lload k => mj_lld n 2 pc k L st σ
  | .aload_n k => mj_ald n 1 pc k L st σ
  | .aload k => mj_ald n 2 pc k L st σ
  | .istore_n k => mj_ist n 1 pc k L st σ
  | .istore k => mj_ist n 2 pc k L st σ
  | .astore_n k => mj_ast n 1 pc k L st σ
  | .astore k => mj_ast n 2 pc k L st σ
  | .lstore_n k => mj_lst n 1 pc k L st σ
  | .lstore k => mj_lst n 2 pc k L st σ
  | .iinc k v => (match L[k]? with
    | some (.int x) => bif mj_ok L k then mj_g n 3 ([], pc + 3, L.set k (.int (x + Int32.ofInt v)), st, σ) else none
    | _ => none)
  | .iadd => mj_bin (fun x y => x + y) n pc L st σ
  | .isub => mj_bin (fun x y => x - y) n pc L st σ
  | .imul => mj_bin (fun x y => x * y) n pc L st σ
  | .iand => mj_bin (fun x y => x &&& y) n pc L st σ
  | .ior => mj_bin (fun x y => x ||| y) n pc L st σ
  | .ixor => mj_bin (fun x y => x ^^^ y) n pc L st σ
  | .ishl => mj_bin (fun x y => x <<< (y &&& 31)) n pc L st σ
  | .ishr => mj_bin (fun x y => x >>> (y &&& 31)) n pc L st σ
  | .iushr => mj_bin (fun x y => (x.toUInt32 >>> (y.toUInt32 &&& Int32.toUInt32 31)).toInt32) n pc L st σ
  | .idiv => mj_dvi (fun x y => x / y) n pc L st σ
  | .irem => mj_dvi (fun x y => x - x / y * y) n pc L st σ
  | .ineg => mj_un (fun x => -x) n pc L st σ
  | .i2b => mj_un (fun x => x.toInt8.toInt32) n pc L st σ
  | .i2s => mj_un (fun x => x.toInt16.toInt32) n pc L st σ
  | .i2l => (match st with | .int x :: rest => mj_g n 1 ([], pc + 1, L, .long x.toInt64 :: rest, σ) | _ => none)
  | .lcmp => (match st with | .long y :: .long x :: rest => mj_g n 1 ([], pc + 1, L, .int (lg_cmp x y) :: rest, σ) | _ => none)
  | .ldiv => mj_dvl (fun x y => x / y) n pc L st σ
  | .lrem => mj_dvl (fun x y => x - x / y * y) n pc L st σ
  | .dup => (match st with | v :: rest => bif Nat.beq v.category 1 then mj_g n 1 ([], pc + 1, L, v :: v :: rest, σ) else none | _ => none)
  | .dup2 => (match st with | v :: w :: rest => bif Nat.beq v.category 1 && Nat.beq w.category 1 then mj_g n 1 ([], pc + 1, L, v :: w :: v :: w :: rest, σ) else none | _ => none)
  | .goto off => mj_jmp n 3 pc off L st σ
  | .getfield idx => mj_getf M.1 n idx pc L st σ
  | .putfield idx => mj_putf M n idx pc L st σ
  | .iaload => mj_iald n pc L st σ
  | .iastore => mj_iast n pc L st σ
  | .aaload => mj_aald n pc L st σ
  | .aastore => mj_aast n pc L st σ
  | .arraylength => mj_alen n pc L st σ
  | .new idx => mj_new M.1 n idx pc L st σ
  | .newarray t => (match t with | .int => mj_newa n pc L st σ | _ => none)
  | .anewarray idx => mj_anew M.1 n idx pc L st σ
  | .multianewarray idx d => bif Nat.beq d 2 then mj_mna M.1 n idx pc L st σ else none
  | .invokespecial idx => mj_oin M n idx pc L st σ
  | .invokestatic idx => mj_sta M n idx pc L st σ
  | .tableswitch d lo hi offs => mj_tsw pc d lo hi offs L st σ
  | .lookupswitch d ps => mj_lsw pc d ps L st σ
  | _ => none
def mj_tab (M : mj_Md) (pc : Nat) : Option (Instr × Nat) := bif Nat.blt pc M.2.2.2.2.2.2.1 then M.2.2.2.2.2.2.2 pc else none
def mj_s (M : mj_Md) (pc : Nat) (L st : List Value) (σ : mj_S) : Option mj_R1 := match mj_tab M pc with
  | some (i, n) => mj_x M i n pc L st σ
  | none => none
/-- several -/
def mj_run : Nat → mj_Md → Nat → List Value → List Value → mj_S → Option mj_R1
  | 0, _, pc, L, st, σ => some ([], pc, L, st, σ)
  | k + 1, M, pc, L, st, σ => match mj_s M pc L st σ with
    | some (φ, pc', L', st', σ') => (match mj_run k M pc' L' st' σ' with
      | some (ψ, r) => some (φ ++ ψ, r)
      | none => none)
    | none => none
def mj_al : List Prop → Prop
  | [] => True
  | p :: ps => p ∧ mj_al ps
/-- a branch: what is asked, where it goes on if so, where if not -/
def mj_b (M : mj_Md) (pc : Nat) (st : List Value) : Option (Prop × Nat × Nat × List Value) := match mj_tab M pc with
  | some (.ifCond c off, 3) => (match st, mj_tg pc off with
    | .int x :: rest, some t => (match c with
      | .eq => some (x = 0, t, pc + 3, rest)
      | .ne => some (x = 0, pc + 3, t, rest)
      | .lt => some (x < 0, t, pc + 3, rest)
      | .ge => some (x < 0, pc + 3, t, rest)
      | .gt => some (0 < x, t, pc + 3, rest)
      | .le => some (0 < x, pc + 3, t, rest))
    | _, _ => none)
  | some (.if_icmp c off, 3) => (match st, mj_tg pc off with
    | .int y :: .int x :: rest, some t => (match c with
      | .eq => some (x = y, t, pc + 3, rest)
      | .ne => some (x = y, pc + 3, t, rest)
      | .lt => some (x < y, t, pc + 3, rest)
      | .ge => some (x < y, pc + 3, t, rest)
      | .gt => some (y < x, t, pc + 3, rest)
      | .le => some (y < x, pc + 3, t, rest))
    | _, _ => none)
  | _ => none
