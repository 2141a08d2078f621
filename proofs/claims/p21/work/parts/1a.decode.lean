/-! part 1a: instructions read from a suffix of the bytes: one pass for many -/
def zdc1 : Nat → Option Instr
  | 2 => some (.iconst (-1)) | 3 => some (.iconst 0) | 4 => some (.iconst 1) | 5 => some (.iconst 2) | 6 => some (.iconst 3) | 7 => some (.iconst 4) | 8 => some (.iconst 5)
  | 9 => some (.lconst 0) | 10 => some (.lconst 1)
  | 26 => some (.iload_n 0) | 27 => some (.iload_n 1) | 28 => some (.iload_n 2) | 29 => some (.iload_n 3)
  | 30 => some (.lload_n 0) | 31 => some (.lload_n 1) | 32 => some (.lload_n 2) | 33 => some (.lload_n 3)
  | 42 => some (.aload_n 0) | 43 => some (.aload_n 1) | 44 => some (.aload_n 2) | 45 => some (.aload_n 3)
  | 46 => some .iaload | 47 => some .laload | 50 => some .aaload | 51 => some .baload
  | 59 => some (.istore_n 0) | 60 => some (.istore_n 1) | 61 => some (.istore_n 2) | 62 => some (.istore_n 3)
  | 63 => some (.lstore_n 0) | 64 => some (.lstore_n 1) | 65 => some (.lstore_n 2) | 66 => some (.lstore_n 3)
  | 75 => some (.astore_n 0) | 76 => some (.astore_n 1) | 77 => some (.astore_n 2) | 78 => some (.astore_n 3)
  | 79 => some .iastore | 80 => some .lastore | 83 => some .aastore
  | 87 => some .pop | 88 => some .pop2 | 89 => some .dup | 90 => some .dup_x1 | 92 => some .dup2
  | 96 => some .iadd | 100 => some .isub | 104 => some .imul | 108 => some .idiv | 112 => some .irem | 116 => some .ineg
  | 120 => some .ishl | 121 => some .lshl | 122 => some .ishr | 124 => some .iushr | 126 => some .iand | 127 => some .land | 128 => some .ior | 129 => some .lor | 130 => some .ixor
  | 133 => some .i2l | 136 => some .l2i | 145 => some .i2b | 146 => some .i2c | 147 => some .i2s | 148 => some .lcmp
  | 172 => some .ireturn | 173 => some .lreturn | 176 => some .areturn | 177 => some .return_ | 190 => some .arraylength
  | _ => none
/-- with one byte behind: its number or, signed, 16 alone -/
def zdc2 : Nat → Option (Nat → Instr)
  | 18 => some .ldc | 21 => some .iload | 22 => some .lload | 25 => some .aload | 54 => some .istore | 55 => some .lstore | 58 => some .astore
  | 16 => some (fun n => .bipush (Reader.signed 8 n))
  | _ => none
/-- with two -/
def zdc3 : Nat → Option (Nat → Instr)
  | 19 => some .ldc_w | 20 => some .ldc2_w | 178 => some .getstatic | 180 => some .getfield | 181 => some .putfield | 182 => some .invokevirtual | 183 => some .invokespecial | 184 => some .invokestatic | 187 => some .new | 189 => some .anewarray
  | 17 => some (fun n => .sipush (Reader.signed 16 n))
  | 153 => some (fun n => .ifCond .eq (Reader.signed 16 n)) | 154 => some (fun n => .ifCond .ne (Reader.signed 16 n)) | 155 => some (fun n => .ifCond .lt (Reader.signed 16 n)) | 156 => some (fun n => .ifCond .ge (Reader.signed 16 n)) | 157 => some (fun n => .ifCond .gt (Reader.signed 16 n)) | 158 => some (fun n => .ifCond .le (Reader.signed 16 n))
  | 159 => some (fun n => .if_icmp .eq (Reader.signed 16 n)) | 160 => some (fun n => .if_icmp .ne (Reader.signed 16 n)) | 161 => some (fun n => .if_icmp .lt (Reader.signed 16 n)) | 162 => some (fun n => .if_icmp .ge (Reader.signed 16 n)) | 163 => some (fun n => .if_icmp .gt (Reader.signed 16 n)) | 164 => some (fun n => .if_icmp .le (Reader.signed 16 n))
  | 167 => some (fun n => .goto (Reader.signed 16 n))
  | _ => none
theorem zdcb {f : Nat → Instr} {x : Except DecodeError (Nat × Nat)} {n q : Nat} (e : x = .ok (n, q)) : Except.bind x (fun z => .ok (f z.1, z.2)) = .ok (f n, q) := by
  rw [e]
  rfl
theorem zdcc {g : Nat → Int} {f : Int → Instr} {x : Except DecodeError (Nat × Nat)} {n q : Nat} (e : x = .ok (n, q)) : Except.bind (Except.bind x (fun z => .ok (g z.1, z.2))) (fun z => .ok (f z.1, z.2)) = .ok (f (g n), q) := by
  rw [e]
  rfl
theorem zdcK : ∃ K : Nat → Nat → Decoder Instr, (∀ pc, Decoder.instr pc = (Reader.u1 >>= K pc)) ∧ (∀ pc o i, zdc1 o = some i → K pc o = (Pure.pure i : Decoder Instr)) ∧ (∀ pc o f, zdc2 o = some f → ∀ (c : ByteArray) (p n q : Nat), (Reader.u1 : Decoder Nat) c p = .ok (n, q) → K pc o c p = .ok (f n, q)) ∧ (∀ pc o f, zdc3 o = some f → ∀ (c : ByteArray) (p n q : Nat), (Reader.u2 : Decoder Nat) c p = .ok (n, q) → K pc o c p = .ok (f n, q)) ∧ (∀ pc (c : ByteArray) (p n q k s : Nat), (Reader.u1 : Decoder Nat) c p = .ok (n, q) → (Reader.u1 : Decoder Nat) c q = .ok (k, s) → K pc 132 c p = .ok (.iinc n (Reader.signed 8 k), s)) := by
  refine ⟨_, fun _ => rfl, fun pc o i h => ?_, fun pc o f h => ?_, fun pc o f h => ?_, fun pc c p n q k s e1 e2 => ?_⟩
  · unfold zdc1 at h
    split at h <;> first | (cases h; rfl) | cases h
  · unfold zdc2 at h
    split at h <;> first | (cases h; intro c p n q e; first | exact zdcb e | exact zdcc e) | cases h
  · unfold zdc3 at h
    split at h <;> first | (cases h; intro c p n q e; first | exact zdcb e | exact zdcc e) | cases h
  · show Except.bind ((Reader.u1 : Decoder Nat) c p) (fun a => Except.bind (Except.bind ((Reader.u1 : Decoder Nat) c a.2) (fun d => .ok (Reader.signed 8 d.1, d.2))) (fun d => .ok (Instr.iinc a.1 d.1, d.2))) = _
    rw [e1]
    show Except.bind (Except.bind ((Reader.u1 : Decoder Nat) c q) (fun d => .ok (Reader.signed 8 d.1, d.2))) (fun d => .ok (Instr.iinc n d.1, d.2)) = _
    rw [e2]
    rfl
theorem zdcu {c : ByteArray} {p : Nat} {b : UInt8} {r : List UInt8} (h : c.data.toList.drop p = b :: r) : (Reader.u1 : Decoder Nat) c p = .ok (b.toNat, p + 1) := by
  have hl : p < c.data.toList.length := by
    refine Decidable.byContradiction fun n => ?_
    rw [List.drop_eq_nil_of_le (by omega)] at h
    cases h
  have hs : p < c.size := hl
  have hg : c[p] = b := by
    have e : c.data.toList[p]? = some b := by
      have t := congrArg List.head? h
      rw [List.head?_drop] at t
      exact t
    rw [List.getElem?_eq_getElem hl] at e
    exact Option.some.inj e
  have e : (Reader.u1 : Decoder Nat) c p = (if h : p < c.size then (do set (p + 1); Pure.pure c[p].toNat : Decoder Nat) else throw (HasTruncated.truncated p)) c p := rfl
  rw [e, dif_pos hs, hg]
  rfl
theorem zdct {c : ByteArray} {p : Nat} {b : UInt8} {r : List UInt8} (h : c.data.toList.drop p = b :: r) : c.data.toList.drop (p + 1) = r := by
  have t := congrArg List.tail h
  rw [List.tail_drop] at t
  exact t
def zdc : List UInt8 → Option (Instr × Nat)
  | [] => none
  | b :: r => match zdc1 b.toNat with
    | some i => some (i, 1)
    | none => match r with
      | [] => none
      | x :: q => match zdc2 b.toNat with
        | some f => some (f x.toNat, 2)
        | none => match q with
          | [] => none
          | y :: _ => match zdc3 b.toNat with
            | some f => some (f (x.toNat * 256 + y.toNat), 3)
            | none => if b.toNat = 132 then some (.iinc x.toNat (Reader.signed 8 y.toNat), 3) else none
theorem zdc_ok {c : ByteArray} {p : Nat} {z : Instr × Nat} (h : zdc (c.data.toList.drop p) = some z) : decode c p = .ok z := by
  obtain ⟨K, k0, k1, k2, k3, k4⟩ := zdcK
  have go : ∀ {b : UInt8} {r : List UInt8} {i : Instr} {n : Nat}, c.data.toList.drop p = b :: r → (K p b.toNat : Decoder Instr) c (p + 1) = .ok (i, p + n) → decode c p = .ok (i, n) := fun {b r i n} e k => by
    have e1 : (Decoder.instr p) c p = .ok (i, p + n) := by
      rw [k0]
      show Except.bind ((Reader.u1 : Decoder Nat) c p) (fun q => K p q.1 c q.2) = _
      rw [zdcu e]
      exact k
    show Except.bind ((Decoder.instr p) c p) (fun q => .ok (q.1, q.2 - p)) = _
    rw [e1]
    show Except.ok (i, p + n - p) = _
    rw [Nat.add_sub_cancel_left]
  unfold zdc at h
  split at h
  · cases h
  · rename_i b r e
    split at h
    · rename_i i hi
      cases h
      exact go e (by rw [k1 _ _ _ hi]; rfl)
    · split at h
      · cases h
      · rename_i x q
        have e1 := zdct e
        split at h
        · rename_i f hf
          cases h
          exact go e (k2 _ _ _ hf _ _ _ _ (zdcu e1))
        · split at h
          · cases h
          · rename_i y q2
            have e2 := zdct e1
            split at h
            · rename_i f hf
              cases h
              refine go e (k3 _ _ _ hf _ _ _ _ ?_)
              show Except.bind ((Reader.u1 : Decoder Nat) c (p + 1)) (fun a => Except.bind ((Reader.u1 : Decoder Nat) c a.2) (fun d => .ok (a.1 * 256 + d.1, d.2))) = _
              rw [zdcu e1]
              show Except.bind ((Reader.u1 : Decoder Nat) c (p + 1 + 1)) (fun d => .ok (x.toNat * 256 + d.1, d.2)) = _
              rw [zdcu e2]
              rfl
            · split at h
              · rename_i g
                cases h
                refine go e ?_
                rw [g]
                exact k4 _ _ _ _ _ _ _ (zdcu e1) (zdcu e2)
              · cases h
/-- a run of instructions -/
def zdcP (c : ByteArray) : Nat → List (Instr × Nat) → Prop
  | _, [] => True
  | p, z :: r => decode c p = .ok z ∧ zdcP c (p + z.2) r
def zdcA : List UInt8 → List (Instr × Nat) → Bool
  | _, [] => true
  | l, z :: r => decide (zdc l = some z) && zdcA (l.drop z.2) r
theorem zdcA_ok {c : ByteArray} : ∀ {t : List (Instr × Nat)} {p : Nat}, zdcA (c.data.toList.drop p) t = true → zdcP c p t
  | [], _, _ => trivial
  | z :: r, p, h => by
    unfold zdcA at h
    rw [Bool.and_eq_true, List.drop_drop] at h
    exact ⟨zdc_ok (of_decide_eq_true h.1), zdcA_ok h.2⟩
