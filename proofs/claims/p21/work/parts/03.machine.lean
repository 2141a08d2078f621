/-! part 03: a small machine over numbers of cells: values, cells, states, one step (zx_stp), runs (zx_ex) -/
abbrev zx_V : Type := Int32 ⊕ Int64 ⊕ (Nat × Nat)
abbrev zx_A : Type := List Int32 ⊕ List Int64 ⊕ List (Option Nat)
abbrev zx_C : Type := (Nat × List zx_V) ⊕ (Nat × zx_A)
def zx_an1 : zx_A → Nat
  | .inl f => f.length
  | .inr (.inl f) => f.length
  | .inr (.inr f) => f.length
abbrev zx_S : Type := Nat × List (Option zx_V) × List zx_V × List zx_C × Nat × Nat
abbrev zx_R : Type := Option zx_V × List zx_C × Nat × Nat
abbrev zx_Sc : Type := Option (Nat × (Nat → Int32))
abbrev zx_T : Type := Option (zx_S ⊕ zx_R)
def zx_m0 : zx_MT := (0, yX0_init, cX0_init, 1, none, 0, 2)
def zx_m (k : Nat) : zx_MT := (zx_ml[k]?).getD zx_m0
abbrev zx_mo (t : zx_MT) : Nat := t.1
abbrev zx_my (t : zx_MT) : MethodName := t.2.1
abbrev zx_mb (t : zx_MT) : ByteArray := t.2.2.1
abbrev zx_mn (t : zx_MT) : Nat := t.2.2.2.1
abbrev zx_mr (t : zx_MT) : Option FieldType := t.2.2.2.2.1
abbrev zx_mp (t : zx_MT) : Nat := t.2.2.2.2.2.1
abbrev zx_mk (t : zx_MT) : Nat := t.2.2.2.2.2.2
def zx_lk {α : Type} (l : List (List (Nat × α))) (o i : Nat) : Option α := match l[o]? with
  | some r => r.lookup i
  | none => none
-- what a value is: 0 int, 1 long, 2 a reference
def zx_kd : zx_V → Nat
  | .inl _ => 0
  | .inr (.inl _) => 1
  | .inr (.inr _) => 2
def zx_c1 : zx_V → Bool
  | .inr (.inl _) => false
  | _ => true
def zx_cs : List zx_V → Nat
  | [] => 0
  | v :: r => (if zx_c1 v then 1 else 2) + zx_cs r
def zx_vl (n : Nat) : zx_V → Bool
  | .inr (.inr (1, i)) => decide (i < n)
  | _ => true
def zx_vo (n : Nat) : Option zx_V → Bool
  | some v => zx_vl n v
  | none => true
def zx_vc (n : Nat) : zx_C → Bool
  | .inl (_, fs) => fs.all (zx_vl n)
  | .inr (_, .inr (.inr f)) => f.all (fun j => match j with | some i => decide (i < n) | none => true)
  | _ => true
def zx_rf : Option Nat → zx_V
  | none => .inr (.inr (0, 0))
  | some i => .inr (.inr (1, i))
def zx_N (pc : Nat) (L : List (Option zx_V)) (S : List zx_V) (h : List zx_C) (nc ns : Nat) : zx_T := some (.inl (pc, L, S, h, nc, ns))
def zx_J (pc : Nat) (off : Int) (L : List (Option zx_V)) (S : List zx_V) (h : List zx_C) (nc ns : Nat) : zx_T := if 0 ≤ (pc : Int) + off then zx_N ((pc : Int) + off).toNat L S h nc ns else none
def zx_cl1 (L : List (Option zx_V)) : Nat → List (Option zx_V)
  | 0 => L
  | i + 1 => match L[i]? with
    | some (some (.inr (.inl _))) => L.set i none
    | _ => L
def zx_ld (ty i n pc : Nat) (L : List (Option zx_V)) (S : List zx_V) (h : List zx_C) (nc ns : Nat) : zx_T := match L[i]? with
  | some (some v) => if zx_kd v = ty then zx_N (pc + n) L (v :: S) h nc ns else none
  | _ => none
def zx_sto (ty i n pc : Nat) (L : List (Option zx_V)) (S : List zx_V) (h : List zx_C) (nc ns : Nat) : zx_T := match S with
  | v :: r => if zx_kd v = ty ∧ zx_c1 v = true ∧ i < L.length then zx_N (pc + n) ((zx_cl1 L i).set i (some v)) r h nc ns else none
  | _ => none
def zx_stl (i n pc : Nat) (L : List (Option zx_V)) (S : List zx_V) (h : List zx_C) (nc ns : Nat) : zx_T := match S with
  | .inr (.inl x) :: r => if i + 1 < L.length then zx_N (pc + n) (((zx_cl1 L i).set i (some (.inr (.inl x)))).set (i + 1) none) r h nc ns else none
  | _ => none
def zx_iinc (i : Nat) (z : Int) (pc : Nat) (L : List (Option zx_V)) (S : List zx_V) (h : List zx_C) (nc ns : Nat) : zx_T := match L[i]? with
  | some (some (.inl x)) => zx_N (pc + 3) ((zx_cl1 L i).set i (some (.inl (x + Int32.ofInt z)))) S h nc ns
  | _ => none
def zx_b2 : Instr → Int32 → Int32 → Option Int32
  | .iadd, x, y => some (x + y)
  | .isub, x, y => some (x - y)
  | .imul, x, y => some (x * y)
  | .iand, x, y => some (x &&& y)
  | .ior, x, y => some (x ||| y)
  | .ixor, x, y => some (x ^^^ y)
  | .ishl, x, y => some (x <<< (y &&& 31))
  | .ishr, x, y => some (x >>> (y &&& 31))
  | .iushr, x, y => some (x.toUInt32 >>> (y.toUInt32 &&& Int32.toUInt32 31)).toInt32
  | .idiv, x, y => if y = 0 then none else some (x / y)
  | .irem, x, y => if y = 0 then none else some (x - x / y * y)
  | _, _, _ => none
def zx_bin (ins : Instr) (pc : Nat) (L : List (Option zx_V)) (S : List zx_V) (h : List zx_C) (nc ns : Nat) : zx_T := match S with
  | .inl y :: .inl x :: r => match zx_b2 ins x y with
    | some z => zx_N (pc + 1) L (.inl z :: r) h nc ns
    | none => none
  | _ => none
def zx_b1 : Instr → Int32 → Option Int32
  | .ineg, x => some (-x)
  | .i2b, x => some x.toInt8.toInt32
  | .i2s, x => some x.toInt16.toInt32
  | .i2c, x => some (x.toUInt32 % 65536).toInt32
  | _, _ => none
def zx_un (ins : Instr) (pc : Nat) (L : List (Option zx_V)) (S : List zx_V) (h : List zx_C) (nc ns : Nat) : zx_T := match S with
  | .inl x :: r => match zx_b1 ins x with
    | some z => zx_N (pc + 1) L (.inl z :: r) h nc ns
    | none => none
  | _ => none
def zx_lng (ins : Instr) (pc : Nat) (L : List (Option zx_V)) (S : List zx_V) (h : List zx_C) (nc ns : Nat) : zx_T := match ins, S with
  | .i2l, .inl x :: r => zx_N (pc + 1) L (.inr (.inl x.toInt64) :: r) h nc ns
  | .l2i, .inr (.inl x) :: r => zx_N (pc + 1) L (.inl x.toInt32 :: r) h nc ns
  | .land, .inr (.inl y) :: .inr (.inl x) :: r => zx_N (pc + 1) L (.inr (.inl (x &&& y)) :: r) h nc ns
  | .lor, .inr (.inl y) :: .inr (.inl x) :: r => zx_N (pc + 1) L (.inr (.inl (x ||| y)) :: r) h nc ns
  | .lshl, .inl y :: .inr (.inl x) :: r => zx_N (pc + 1) L (.inr (.inl (x <<< (y.toInt64 &&& 63))) :: r) h nc ns
  | _, _ => none
def zx_stk (ins : Instr) (pc : Nat) (L : List (Option zx_V)) (S : List zx_V) (h : List zx_C) (nc ns : Nat) : zx_T := match ins, S with
  | .dup, a :: r => if zx_c1 a = true then zx_N (pc + 1) L (a :: a :: r) h nc ns else none
  | .pop, a :: r => if zx_c1 a = true then zx_N (pc + 1) L r h nc ns else none
  | .dup_x1, a :: b :: r => if zx_c1 a = true ∧ zx_c1 b = true then zx_N (pc + 1) L (a :: b :: a :: r) h nc ns else none
  | .dup2, a :: b :: r => if zx_c1 a = true ∧ zx_c1 b = true then zx_N (pc + 1) L (a :: b :: a :: b :: r) h nc ns else none
  | .pop2, a :: r => if zx_c1 a = true then none else zx_N (pc + 1) L r h nc ns
  | _, _ => none
def zx_cb : ClassFile.Cond → Int32 → Int32 → Bool
  | .eq, x, y => decide (x = y)
  | .ne, x, y => decide (¬ x = y)
  | .lt, x, y => decide (x < y)
  | .ge, x, y => decide (y ≤ x)
  | .gt, x, y => decide (y < x)
  | .le, x, y => decide (x ≤ y)
def zx_br (t : Bool) (off : Int) (pc : Nat) (L : List (Option zx_V)) (S : List zx_V) (h : List zx_C) (nc ns : Nat) : zx_T := if 0 ≤ (pc : Int) + off then (if t = true then zx_N ((pc : Int) + off).toNat L S h nc ns else zx_N (pc + 3) L S h nc ns) else none
def zx_if1 (c : ClassFile.Cond) (off : Int) (pc : Nat) (L : List (Option zx_V)) (S : List zx_V) (h : List zx_C) (nc ns : Nat) : zx_T := match S with
  | .inl x :: r => zx_br (zx_cb c x 0) off pc L r h nc ns
  | _ => none
def zx_if2 (c : ClassFile.Cond) (off : Int) (pc : Nat) (L : List (Option zx_V)) (S : List zx_V) (h : List zx_C) (nc ns : Nat) : zx_T := match S with
  | .inl y :: .inl x :: r => zx_br (zx_cb c x y) off pc L r h nc ns
  | _ => none
def zx_tsw (dflt lo hi : Int) (offs : Array Int) (pc : Nat) (L : List (Option zx_V)) (S : List zx_V) (h : List zx_C) (nc ns : Nat) : zx_T := match S with
  | .inl x :: r => if x.toInt < lo ∨ hi < x.toInt then zx_J pc dflt L r h nc ns else match offs[(x.toInt - lo).toNat]? with
    | some off => zx_J pc off L r h nc ns
    | none => none
  | _ => none
def zx_lsw (dflt : Int) (ps : Array (Int × Int)) (pc : Nat) (L : List (Option zx_V)) (S : List zx_V) (h : List zx_C) (nc ns : Nat) : zx_T := match S with
  | .inl x :: r => if (ps.toList.zip (ps.toList.drop 1)).all (fun (a, next) => a.1 < next.1) = true then zx_J pc (Op.lookupswitch.offset ps.toList dflt x.toInt) L r h nc ns else none
  | _ => none
-- fields
def zx_T8 : Nat → u_T
  | 0 => TX0 | 1 => TX1 | 2 => TX2 | 3 => TX3 | 4 => TX4 | 5 => TX5 | 6 => TX6 | 7 => TX7 | _ => TX8
def zx_ft : Nat → Nat → FieldType
  | 0 => tyX0 | 1 => tyX1 | 2 => tyX2 | 3 => tyX3 | 4 => tyX4 | 5 => tyX5 | 6 => tyX6 | 7 => tyX7 | _ => tyX8
def zx_fn : Nat → Nat
  | 0 => 5 | 1 => 4 | 2 => 8 | 3 => 3 | 4 => 7 | 5 => 13 | 6 => 6 | 7 => 11 | _ => 53
def zx_R9 : Nat → String
  | 0 => RX0 | 1 => RX1 | 2 => RX2 | 3 => RX3 | 4 => RX4 | 5 => RX5 | 6 => RX6 | 7 => RX7 | _ => RX8
def zx_fit : FieldType → zx_V → Bool
  | .int, .inl _ => true
  | .boolean, .inl x => decide (x = 0 ∨ x = 1)
  | .array _, .inr (.inr (1, _)) => true
  | .object _, .inr (.inr (1, _)) => true
  | _, _ => false
def zx_df : FieldType → zx_V
  | .int => .inl 0
  | .boolean => .inl 0
  | .long => .inr (.inl 0)
  | _ => .inr (.inr (0, 0))
def zx_gf (o ix pc : Nat) (L : List (Option zx_V)) (S : List zx_V) (h : List zx_C) (nc ns : Nat) : zx_T := match S with
  | .inr (.inr (1, a)) :: r => match zx_lk zx_lF o ix, h[a]? with
    | some (ci, k, _), some (.inl (ci', fs)) => if ci' = ci then (match fs[k]? with
      | some v => zx_N (pc + 3) L (v :: r) h nc ns
      | none => none) else none
    | _, _ => none
  | .inr (.inr (2, a)) :: r => if a < 12 then (match zx_lk zx_lK o ix with
    | some (0, _) => zx_N (pc + 3) L (.inr (.inr (3, a)) :: r) h nc ns
    | some (1, _) => zx_N (pc + 3) L (.inl 0 :: r) h nc ns
    | _ => none) else none
  | _ => none
def zx_pf (o kd ix pc : Nat) (L : List (Option zx_V)) (S : List zx_V) (h : List zx_C) (nc ns : Nat) : zx_T := match S with
  | v :: .inr (.inr (1, a)) :: r => match zx_lk zx_lF o ix, h[a]? with
    | some (ci, k, nest, _), some (.inl (ci', fs)) => if ci' = ci ∧ k < fs.length ∧ zx_fit (zx_ft ci k) v = true ∧ ((zx_T8 ci k).2.2.2 = false ∨ (nest = 0 ∧ kd = 2 ∧ ci = o)) then zx_N (pc + 3) L r (h.set a (.inl (ci, fs.set k v))) nc ns else none
    | _, _ => none
  | _ => none
-- statics
def zx_gs (o ix pc : Nat) (L : List (Option zx_V)) (S : List zx_V) (h : List zx_C) (nc ns : Nat) : zx_T := match zx_lk zx_lG o ix with
  | some (g, _) => if g < 5 then zx_N (pc + 3) L (.inr (.inr (4, g)) :: S) h nc ns else if g = 5 then zx_N (pc + 3) L (.inl 1 :: S) h nc ns else if g = 6 then zx_N (pc + 3) L (.inr (.inr (6, 0)) :: S) h nc ns else none
  | none => none
-- rows
def zx_al (sc : zx_Sc) (pc : Nat) (L : List (Option zx_V)) (S : List zx_V) (h : List zx_C) (nc ns : Nat) : zx_T := match S with
  | .inr (.inr (1, a)) :: r => match h[a]? with
    | some (.inr (t0, z)) => if t0 < 4 then zx_N (pc + 1) L (.inl (Int32.ofNat (zx_an1 z)) :: r) h nc ns else none
    | _ => none
  | .inr (.inr (3, a)) :: r => if a < 12 then zx_N (pc + 1) L (.inl (Int32.ofNat (zx_sl.getD a 0)) :: r) h nc ns else none
  | .inr (.inr (5, 0)) :: r => match sc with
    | some q => zx_N (pc + 1) L (.inl (Int32.ofNat q.1) :: r) h nc ns
    | none => none
  | _ => none
def zx_ial (sc : zx_Sc) (pc : Nat) (L : List (Option zx_V)) (S : List zx_V) (h : List zx_C) (nc ns : Nat) : zx_T := match S with
  | .inl i :: .inr (.inr (1, a)) :: r => match h[a]? with
    | some (.inr (0, .inl f)) => if ¬ i < 0 ∧ i.toNatClampNeg < f.length then zx_N (pc + 1) L (.inl (f.getD i.toNatClampNeg 0) :: r) h nc ns else none
    | _ => none
  | .inl i :: .inr (.inr (4, a)) :: r => if a < 5 ∧ ¬ i < 0 ∧ i.toNatClampNeg < (zx_sa.getD a []).length then zx_N (pc + 1) L (.inl ((zx_sa.getD a []).getD i.toNatClampNeg 0) :: r) h nc ns else none
  | .inl i :: .inr (.inr (5, 0)) :: r => match sc with
    | some q => if ¬ i < 0 ∧ i.toNatClampNeg < q.1 then zx_N (pc + 1) L (.inl (q.2 i.toNatClampNeg) :: r) h nc ns else none
    | none => none
  | _ => none
def zx_ias (pc : Nat) (L : List (Option zx_V)) (S : List zx_V) (h : List zx_C) (nc ns : Nat) : zx_T := match S with
  | .inl x :: .inl i :: .inr (.inr (1, a)) :: r => match h[a]? with
    | some (.inr (0, .inl f)) => if ¬ i < 0 ∧ i.toNatClampNeg < f.length then zx_N (pc + 1) L r (h.set a (.inr (0, .inl (f.set i.toNatClampNeg x)))) nc ns else none
    | _ => none
  | _ => none
def zx_lal (pc : Nat) (L : List (Option zx_V)) (S : List zx_V) (h : List zx_C) (nc ns : Nat) : zx_T := match S with
  | .inl i :: .inr (.inr (1, a)) :: r => match h[a]? with
    | some (.inr (1, .inr (.inl f))) => if ¬ i < 0 ∧ i.toNatClampNeg < f.length then zx_N (pc + 1) L (.inr (.inl (f.getD i.toNatClampNeg 0)) :: r) h nc ns else none
    | _ => none
  | _ => none
def zx_las (pc : Nat) (L : List (Option zx_V)) (S : List zx_V) (h : List zx_C) (nc ns : Nat) : zx_T := match S with
  | .inr (.inl x) :: .inl i :: .inr (.inr (1, a)) :: r => match h[a]? with
    | some (.inr (1, .inr (.inl f))) => if ¬ i < 0 ∧ i.toNatClampNeg < f.length then zx_N (pc + 1) L r (h.set a (.inr (1, .inr (.inl (f.set i.toNatClampNeg x))))) nc ns else none
    | _ => none
  | _ => none
def zx_bal (pc : Nat) (L : List (Option zx_V)) (S : List zx_V) (h : List zx_C) (nc ns : Nat) : zx_T := match S with
  | .inl i :: .inr (.inr (3, a)) :: r => if a < 12 ∧ ¬ i < 0 ∧ i.toNatClampNeg < zx_sl.getD a 0 then zx_N (pc + 1) L (.inl ((zx_sb.getD a []).getD i.toNatClampNeg 0) :: r) h nc ns else none
  | _ => none
def zx_aal (pc : Nat) (L : List (Option zx_V)) (S : List zx_V) (h : List zx_C) (nc ns : Nat) : zx_T := match S with
  | .inl i :: .inr (.inr (1, a)) :: r => match h[a]? with
    | some (.inr (t0, .inr (.inr f))) => if (t0 = 2 ∨ t0 = 3) ∧ ¬ i < 0 ∧ i.toNatClampNeg < f.length then zx_N (pc + 1) L (zx_rf ((f[i.toNatClampNeg]?).getD none) :: r) h nc ns else none
    | _ => none
  | _ => none
def zx_aas (pc : Nat) (L : List (Option zx_V)) (S : List zx_V) (h : List zx_C) (nc ns : Nat) : zx_T := match S with
  | .inr (.inr (1, v)) :: .inl i :: .inr (.inr (1, a)) :: r => match h[a]?, h[v]? with
    | some (.inr (t0, .inr (.inr f))), some (.inl (ci, _)) => if ((t0 = 2 ∧ ci = 3) ∨ (t0 = 3 ∧ ci = 5)) ∧ ¬ i < 0 ∧ i.toNatClampNeg < f.length then zx_N (pc + 1) L r (h.set a (.inr (t0, .inr (.inr (f.set i.toNatClampNeg (some v)))))) nc ns else none
    | _, _ => none
  | _ => none
-- makings
def zx_ok (L : List (Option zx_V)) (S : List zx_V) (h : List zx_C) : Bool := L.all (zx_vo h.length) && (S.all (zx_vl h.length) && h.all (zx_vc h.length))
def zx_new (o ix pc : Nat) (L : List (Option zx_V)) (S : List zx_V) (h : List zx_C) (nc ns : Nat) : zx_T := match zx_lk zx_lC o ix with
  | some (ci, _) => if ci < 9 ∧ zx_ok L S h = true then zx_N (pc + 3) L (.inr (.inr (1, h.length)) :: S) (h ++ [.inl (ci, (List.range (zx_fn ci)).map (fun k => zx_df (zx_ft ci k)))]) (nc + 1) (ns + zx_fn ci) else none
  | none => none
def zx_na (ty : ArrayType) (pc : Nat) (L : List (Option zx_V)) (S : List zx_V) (h : List zx_C) (nc ns : Nat) : zx_T := match S with
  | .inl x :: r => if ¬ x < 0 ∧ x.toNatClampNeg ≤ 100000 ∧ zx_ok L r h = true then (match ty with
    | .int => zx_N (pc + 2) L (.inr (.inr (1, h.length)) :: r) (h ++ [.inr (0, .inl (List.replicate x.toNatClampNeg 0))]) (nc + 1) (ns + x.toNatClampNeg)
    | .long => zx_N (pc + 2) L (.inr (.inr (1, h.length)) :: r) (h ++ [.inr (1, .inr (.inl (List.replicate x.toNatClampNeg 0)))]) (nc + 1) (ns + x.toNatClampNeg)
    | _ => none) else none
  | _ => none
def zx_an (o ix pc : Nat) (L : List (Option zx_V)) (S : List zx_V) (h : List zx_C) (nc ns : Nat) : zx_T := match S with
  | .inl x :: r => if ¬ x < 0 ∧ x.toNatClampNeg ≤ 100000 ∧ zx_ok L r h = true then (match zx_lk zx_lC o ix with
    | some (3, _) => zx_N (pc + 3) L (.inr (.inr (1, h.length)) :: r) (h ++ [.inr (2, .inr (.inr (List.replicate x.toNatClampNeg none)))]) (nc + 1) (ns + x.toNatClampNeg)
    | some (5, _) => zx_N (pc + 3) L (.inr (.inr (1, h.length)) :: r) (h ++ [.inr (3, .inr (.inr (List.replicate x.toNatClampNeg none)))]) (nc + 1) (ns + x.toNatClampNeg)
    | _ => none) else none
  | _ => none
-- constants
def zx_lc (o ix n pc : Nat) (L : List (Option zx_V)) (S : List zx_V) (h : List zx_C) (nc ns : Nat) : zx_T := match zx_lk zx_lI o ix with
  | some (v, _) => zx_N (pc + n) L (.inl v :: S) h nc ns
  | none => if n = 2 then (match zx_lk zx_lS o ix with
    | some i => if o = 4 ∧ i < 12 then zx_N (pc + 2) L (.inr (.inr (2, i)) :: S) h nc ns else none
    | none => none) else none
def zx_lc2 (o ix pc : Nat) (L : List (Option zx_V)) (S : List zx_V) (h : List zx_C) (nc ns : Nat) : zx_T := match zx_lk zx_lL o ix with
  | some (v, _) => zx_N (pc + 3) L (.inr (.inl v) :: S) h nc ns
  | none => none
-- calls
def zx_ret (pc : Nat) (L : List (Option zx_V)) (r : List zx_V) (h : List zx_C) (nc ns : Nat) : Option zx_R → zx_T
  | some (v, h', mc, ms) => if h'.length = h.length ∨ zx_ok L r h = true then zx_N (pc + 3) L (v.toList ++ r) h' (nc + mc) (ns + ms) else none
  | none => none
def zx_iv (run : Nat → List zx_V → List zx_C → Option zx_R) (o ix pc : Nat) (L : List (Option zx_V)) (S : List zx_V) (h : List zx_C) (nc ns : Nat) : zx_T := match zx_lk zx_lM o ix with
  | some (k, _) => if zx_mk (zx_m k) = 0 ∧ k < 221 then (match S.drop (zx_mp (zx_m k)) with
    | .inr (.inr (1, a)) :: r => match h[a]? with
      | some (.inl (ci, _)) => if ci = zx_mo (zx_m k) ∧ ci < 9 ∧ zx_cs r ≤ 8 ∧ zx_mp (zx_m k) ≤ S.length then zx_ret pc L r h nc ns (run k (.inr (.inr (1, a)) :: (S.take (zx_mp (zx_m k))).reverse) h) else none
      | _ => none
    | .inr (.inr (2, a)) :: r => if a < 12 ∧ zx_mo (zx_m k) = 11 ∧ zx_cs r ≤ 8 ∧ zx_mp (zx_m k) ≤ S.length then zx_ret pc L r h nc ns (run k (.inr (.inr (2, a)) :: (S.take (zx_mp (zx_m k))).reverse) h) else none
    | _ => none) else none
  | none => none
/-- n of f from sp on, laid over g from dp on -/
def zx_cpy {α : Type} (f g : List α) (sp dp n : Nat) : List α := g.take dp ++ ((f.drop sp).take n ++ g.drop (dp + n))
def zx_ac (pc : Nat) (L : List (Option zx_V)) (S : List zx_V) (h : List zx_C) (nc ns : Nat) : zx_T := match S with
  | .inl n :: .inl dp :: .inr (.inr (1, b)) :: .inl sp :: .inr (.inr (1, a)) :: r => if zx_cs r ≤ 8 ∧ ¬ sp < 0 ∧ ¬ dp < 0 ∧ ¬ n < 0 then (match h[a]?, h[b]? with
    | some (.inr (0, .inl f)), some (.inr (0, .inl g)) => if sp.toNatClampNeg + n.toNatClampNeg ≤ f.length ∧ dp.toNatClampNeg + n.toNatClampNeg ≤ g.length then zx_N (pc + 3) L r (h.set b (.inr (0, .inl (zx_cpy f g sp.toNatClampNeg dp.toNatClampNeg n.toNatClampNeg)))) nc ns else none
    | some (.inr (1, .inr (.inl f))), some (.inr (1, .inr (.inl g))) => if sp.toNatClampNeg + n.toNatClampNeg ≤ f.length ∧ dp.toNatClampNeg + n.toNatClampNeg ≤ g.length then zx_N (pc + 3) L r (h.set b (.inr (1, .inr (.inl (zx_cpy f g sp.toNatClampNeg dp.toNatClampNeg n.toNatClampNeg))))) nc ns else none
    | _, _ => none) else none
  | _ => none
def zx_is (run : Nat → List zx_V → List zx_C → Option zx_R) (o ix pc : Nat) (L : List (Option zx_V)) (S : List zx_V) (h : List zx_C) (nc ns : Nat) : zx_T := match zx_lk zx_lM o ix with
  | some (k, _) => if zx_mk (zx_m k) = 1 ∧ k < 221 ∧ zx_cs (S.drop (zx_mp (zx_m k))) ≤ 8 ∧ zx_mp (zx_m k) ≤ S.length then zx_ret pc L (S.drop (zx_mp (zx_m k))) h nc ns (run k (S.take (zx_mp (zx_m k))).reverse h) else
    (match S with
    | .inl y :: .inl x :: r => if zx_cs r ≤ 8 ∧ k < 221 then (if zx_mk (zx_m k) = 3 then zx_N (pc + 3) L (.inl (if x < y then y else x) :: r) h nc ns else if zx_mk (zx_m k) = 4 then zx_N (pc + 3) L (.inl (if y < x then y else x) :: r) h nc ns else none) else none
    | _ => none)
  | none => match zx_lk zx_lA o ix with
    | some _ => zx_ac pc L S h nc ns
    | none => none
def zx_ii (run : Nat → List zx_V → List zx_C → Option zx_R) (o ix pc : Nat) (L : List (Option zx_V)) (S : List zx_V) (h : List zx_C) (nc ns : Nat) : zx_T := match zx_lk zx_lM o ix with
  | some (k, _) => if zx_mk (zx_m k) = 2 ∧ k < 221 then (match S.drop (zx_mp (zx_m k)) with
    | .inr (.inr (1, a)) :: r => if zx_cs r ≤ 8 ∧ zx_mp (zx_m k) ≤ S.length then zx_ret pc L r h nc ns (run k (.inr (.inr (1, a)) :: (S.take (zx_mp (zx_m k))).reverse) h) else none
    | _ => none) else none
  | none => match zx_lk zx_lO o ix, S with
    | some _, .inr (.inr (1, _)) :: r => if zx_cs r ≤ 8 then zx_N (pc + 3) L r h nc ns else none
    | _, _ => none
def zx_nr : FieldType → Int32 → Bool
  | .int, _ => true
  | .boolean, x => decide (x = 0 ∨ x = 1)
  | .byte, x => decide (x.toInt8.toInt32 = x)
  | .char, x => decide ((x.toUInt32 % 65536).toInt32 = x)
  | _, _ => false
def zx_ir (mr : Option FieldType) (S : List zx_V) (h : List zx_C) (nc ns : Nat) : zx_T := match mr, S with
  | some ty, [.inl v] => if zx_nr ty v = true then some (.inr (some (.inl v), h, nc, ns)) else none
  | _, _ => none
def zx_lr (mr : Option FieldType) (S : List zx_V) (h : List zx_C) (nc ns : Nat) : zx_T := match mr, S with
  | some .long, [.inr (.inl v)] => some (.inr (some (.inr (.inl v)), h, nc, ns))
  | _, _ => none
def zx_ar (mr : Option FieldType) (S : List zx_V) (h : List zx_C) (nc ns : Nat) : zx_T := match mr, S with
  | some (.object _), [.inr (.inr (2, a))] => some (.inr (some (.inr (.inr (2, a))), h, nc, ns))
  | _, _ => none
def zx_vr (mr : Option FieldType) (S : List zx_V) (h : List zx_C) (nc ns : Nat) : zx_T := match mr, S with
  | none, [] => some (.inr (none, h, nc, ns))
  | _, _ => none
def zx_len : Instr → Nat
  | .bipush _ => 2 | .sipush _ => 3 | .ldc _ => 2 | .ldc_w _ => 3 | .ldc2_w _ => 3
  | .iload _ => 2 | .lload _ => 2 | .aload _ => 2 | .istore _ => 2 | .lstore _ => 2 | .astore _ => 2 | .iinc _ _ => 3
  | .ifCond _ _ => 3 | .if_icmp _ _ => 3 | .goto _ => 3 | .getfield _ => 3 | .putfield _ => 3 | .getstatic _ => 3
  | .new _ => 3 | .newarray _ => 2 | .anewarray _ => 3 | .invokevirtual _ => 3 | .invokestatic _ => 3 | .invokespecial _ => 3
  | _ => 1
def zx_lok : Instr → Nat → Bool
  | .tableswitch .., _ => true
  | .lookupswitch .., _ => true
  | i, n => n == zx_len i
def zx_ins (sc : zx_Sc) (run : Nat → List zx_V → List zx_C → Option zx_R) (t : zx_MT) (ins : Instr) (pc : Nat) (L : List (Option zx_V)) (S : List zx_V) (h : List zx_C) (nc ns : Nat) : zx_T := match ins with
  | .iconst n => zx_N (pc + 1) L (.inl (Int32.ofInt n) :: S) h nc ns
  | .bipush n => zx_N (pc + 2) L (.inl (Int8.ofInt n).toInt32 :: S) h nc ns
  | .sipush n => zx_N (pc + 3) L (.inl (Int16.ofInt n).toInt32 :: S) h nc ns
  | .lconst n => zx_N (pc + 1) L (.inr (.inl (Int64.ofNat (n : Nat))) :: S) h nc ns
  | .ldc ix => zx_lc (zx_mo t) ix 2 pc L S h nc ns
  | .ldc_w ix => zx_lc (zx_mo t) ix 3 pc L S h nc ns
  | .ldc2_w ix => zx_lc2 (zx_mo t) ix pc L S h nc ns
  | .iload i => zx_ld 0 i 2 pc L S h nc ns
  | .iload_n i => zx_ld 0 (i : Nat) 1 pc L S h nc ns
  | .lload i => zx_ld 1 i 2 pc L S h nc ns
  | .lload_n i => zx_ld 1 (i : Nat) 1 pc L S h nc ns
  | .aload i => zx_ld 2 i 2 pc L S h nc ns
  | .aload_n i => zx_ld 2 (i : Nat) 1 pc L S h nc ns
  | .istore i => zx_sto 0 i 2 pc L S h nc ns
  | .istore_n i => zx_sto 0 (i : Nat) 1 pc L S h nc ns
  | .astore i => zx_sto 2 i 2 pc L S h nc ns
  | .astore_n i => zx_sto 2 (i : Nat) 1 pc L S h nc ns
  | .lstore i => zx_stl i 2 pc L S h nc ns
  | .lstore_n i => zx_stl (i : Nat) 1 pc L S h nc ns
  | .iinc i z => zx_iinc i z pc L S h nc ns
  | .iadd => zx_bin .iadd pc L S h nc ns
  | .isub => zx_bin .isub pc L S h nc ns
  | .imul => zx_bin .imul pc L S h nc ns
  | .iand => zx_bin .iand pc L S h nc ns
  | .ior => zx_bin .ior pc L S h nc ns
  | .ixor => zx_bin .ixor pc L S h nc ns
  | .ishl => zx_bin .ishl pc L S h nc ns
  | .ishr => zx_bin .ishr pc L S h nc ns
  | .iushr => zx_bin .iushr pc L S h nc ns
  | .idiv => zx_bin .idiv pc L S h nc ns
  | .irem => zx_bin .irem pc L S h nc ns
  | .ineg => zx_un .ineg pc L S h nc ns
  | .i2b => zx_un .i2b pc L S h nc ns
  | .i2s => zx_un .i2s pc L S h nc ns
  | .i2c => zx_un .i2c pc L S h nc ns
  | .i2l => zx_lng .i2l pc L S h nc ns
  | .l2i => zx_lng .l2i pc L S h nc ns
  | .land => zx_lng .land pc L S h nc ns
  | .lor => zx_lng .lor pc L S h nc ns
  | .lshl => zx_lng .lshl pc L S h nc ns
  | .dup => zx_stk .dup pc L S h nc ns
  | .pop => zx_stk .pop pc L S h nc ns
  | .dup_x1 => zx_stk .dup_x1 pc L S h nc ns
  | .dup2 => zx_stk .dup2 pc L S h nc ns
  | .pop2 => zx_stk .pop2 pc L S h nc ns
  | .ifCond c off => zx_if1 c off pc L S h nc ns
  | .if_icmp c off => zx_if2 c off pc L S h nc ns
  | .goto off => zx_J pc off L S h nc ns
  | .tableswitch dflt lo hi offs => zx_tsw dflt lo hi offs pc L S h nc ns
  | .lookupswitch dflt ps => zx_lsw dflt ps pc L S h nc ns
  | .getfield ix => zx_gf (zx_mo t) ix pc L S h nc ns
  | .putfield ix => zx_pf (zx_mo t) (zx_mk t) ix pc L S h nc ns
  | .getstatic ix => zx_gs (zx_mo t) ix pc L S h nc ns
  | .arraylength => zx_al sc pc L S h nc ns
  | .iaload => zx_ial sc pc L S h nc ns
  | .iastore => zx_ias pc L S h nc ns
  | .laload => zx_lal pc L S h nc ns
  | .lastore => zx_las pc L S h nc ns
  | .baload => zx_bal pc L S h nc ns
  | .aaload => zx_aal pc L S h nc ns
  | .aastore => zx_aas pc L S h nc ns
  | .new ix => zx_new (zx_mo t) ix pc L S h nc ns
  | .newarray ty => zx_na ty pc L S h nc ns
  | .anewarray ix => zx_an (zx_mo t) ix pc L S h nc ns
  | .invokevirtual ix => zx_iv run (zx_mo t) ix pc L S h nc ns
  | .invokestatic ix => zx_is run (zx_mo t) ix pc L S h nc ns
  | .invokespecial ix => zx_ii run (zx_mo t) ix pc L S h nc ns
  | .ireturn => zx_ir (zx_mr t) S h nc ns
  | .lreturn => zx_lr (zx_mr t) S h nc ns
  | .areturn => zx_ar (zx_mr t) S h nc ns
  | .return_ => zx_vr (zx_mr t) S h nc ns
  | _ => none
def zx_stp (sc : zx_Sc) (run : Nat → List zx_V → List zx_C → Option zx_R) (t : zx_MT) (st : zx_S) : zx_T := match decode (zx_mb t) st.1 with
  | .ok (ins, len) => if zx_lok ins len = true then zx_ins sc run t ins st.1 st.2.1 st.2.2.1 st.2.2.2.1 st.2.2.2.2.1 st.2.2.2.2.2 else none
  | .error _ => none
def zx_L0 (n : Nat) : List zx_V → List (Option zx_V)
  | [] => List.replicate n none
  | v :: r => if zx_c1 v then some v :: zx_L0 (n - 1) r else some v :: none :: zx_L0 (n - 2) r
/-- n instructions at most, d calls deep at most -/
def zx_ex : Nat → Nat → zx_Sc → zx_MT → zx_S → Option zx_R
  | 0, _, _, _, _ => none
  | n + 1, d, sc, t, st => match zx_stp sc (fun k as h => match d with
      | 0 => none
      | d + 1 => if zx_cs as ≤ zx_mn (zx_m k) then zx_ex n d none (zx_m k) (0, zx_L0 (zx_mn (zx_m k)) as, [], h, 0, 0) else none) t st with
    | some (.inl st') => zx_ex n d sc t st'
    | some (.inr r) => some r
    | none => none
def zx_run (n d k : Nat) (as : List zx_V) (h : List zx_C) : Option zx_R := if zx_cs as ≤ zx_mn (zx_m k) then zx_ex n d none (zx_m k) (0, zx_L0 (zx_mn (zx_m k)) as, [], h, 0, 0) else none
