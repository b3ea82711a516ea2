/-! What an instruction's entry in the tables must be, as a program decides it -/
def zx_f4 (a : Nat) : Fin 4 := ⟨a % 4, Nat.mod_lt a (by decide)⟩
def zx_in4 (b : Nat) : Option Instr := match b with
  | 0 => some .iadd
  | 1 => some .isub
  | 2 => some .imul
  | 3 => some .idiv
  | 4 => some .irem
  | 5 => some .iand
  | 6 => some .ior
  | 7 => some .ishl
  | 8 => some .ishr
  | 9 => some .iushr
  | 10 => some .ladd
  | 11 => some .lsub
  | 12 => some .lmul
  | 13 => some .ldiv
  | 14 => some .land
  | 15 => some .lor
  | 16 => some .lxor
  | 17 => some .lshl
  | 18 => some .lshr
  | 19 => some .lushr
  | _ => none
def zx_cnd (b : Nat) : Jvm.ClassFile.Cond := match b with
  | 0 => .eq
  | 1 => .ne
  | 2 => .lt
  | 3 => .ge
  | 4 => .gt
  | _ => .le
def zx_dd (cc : ByteArray) (pc : Nat) (i : Instr) (n : Nat) : Bool := decide (decode cc pc = .ok (i, n))
def zx_okB (o : Nat) (ret : Option FieldType) (cc : ByteArray) (pc n : Nat) (e : zx_I) : Bool := match e with
  | (op, a, b, v, as) => match op with
    | 0 => match b, v with
      | 0, .int x => decide (n = 1) && zx_dd cc pc (.iconst x.toInt) 1
      | 1, .int x => decide (n = 2) && zx_dd cc pc (.bipush x.toInt) 2 && decide ((Int8.ofInt x.toInt).toInt32 = x)
      | 2, .int x => decide (n = 3) && zx_dd cc pc (.sipush x.toInt) 3 && decide ((Int16.ofInt x.toInt).toInt32 = x)
      | 3, .long x => decide (n = 1) && zx_dd cc pc (.lconst 0) 1 && decide (x = 0)
      | 4, .long x => decide (n = 1) && zx_dd cc pc (.lconst 1) 1 && decide (x = 1)
      | 5, .long x => decide (n = 3) && zx_dd cc pc (.ldc2_w a) 3 && decide ((o, a, x) ∈ zx_ctab)
      | 6, .int x => decide (n = 3) && zx_dd cc pc (.ldc_w a) 3 && decide ((o, a, x) ∈ zx_itab)
      | _, _ => false
    | 1 => match b with
      | 0 => (decide (n = 1) && decide (a < 4) && zx_dd cc pc (.iload_n (zx_f4 a)) 1) || (decide (n = 2) && zx_dd cc pc (.iload a) 2)
      | 1 => (decide (n = 1) && decide (a < 4) && zx_dd cc pc (.lload_n (zx_f4 a)) 1) || (decide (n = 2) && zx_dd cc pc (.lload a) 2)
      | 2 => (decide (n = 1) && decide (a < 4) && zx_dd cc pc (.aload_n (zx_f4 a)) 1) || (decide (n = 2) && zx_dd cc pc (.aload a) 2)
      | _ => false
    | 2 => match b with
      | 0 => (decide (n = 1) && decide (a < 4) && zx_dd cc pc (.istore_n (zx_f4 a)) 1) || (decide (n = 2) && zx_dd cc pc (.istore a) 2)
      | 1 => (decide (n = 1) && decide (a < 4) && zx_dd cc pc (.lstore_n (zx_f4 a)) 1) || (decide (n = 2) && zx_dd cc pc (.lstore a) 2)
      | 2 => (decide (n = 1) && decide (a < 4) && zx_dd cc pc (.astore_n (zx_f4 a)) 1) || (decide (n = 2) && zx_dd cc pc (.astore a) 2)
      | _ => false
    | 3 => match v with
      | .int x => decide (n = 3) && zx_dd cc pc (.iinc a x.toInt) 3
      | _ => false
    | 4 => match zx_in4 b with
      | some i => decide (n = 1) && zx_dd cc pc i 1
      | none => false
    | 5 => match b with
      | 0 => decide (n = 1) && zx_dd cc pc .i2l 1
      | 1 => decide (n = 1) && zx_dd cc pc .l2i 1
      | _ => false
    | 6 => decide (n = 3) && zx_dd cc pc (.goto ((a : Int) - (pc : Int))) 3
    | 7 => decide (n = 3) && zx_dd cc pc (.getfield a) 3 && as.all (fun q => decide ((o, a, q.1, q.2) ∈ zx_ftab))
    | 8 => decide (n = 3) && zx_dd cc pc (.putfield a) 3 && as.all (fun q => decide ((o, a, q.1, q.2) ∈ zx_ftab) && decide ((q.1, q.2) ∈ zx_ptab))
    | 9 => match b with
      | 0 => decide (n = 1) && zx_dd cc pc .iaload 1
      | 1 => decide (n = 1) && zx_dd cc pc .laload 1
      | _ => false
    | 10 => match b with
      | 0 => decide (n = 1) && zx_dd cc pc .iastore 1
      | 1 => decide (n = 1) && zx_dd cc pc .lastore 1
      | _ => false
    | 11 => decide (n = 1) && zx_dd cc pc .arraylength 1
    | 12 => decide (n = 1) && zx_dd cc pc .dup 1
    | 13 => decide (n = 1) && zx_dd cc pc .dup2 1
    | 14 => decide (n = 3) && zx_dd cc pc (.getstatic a) 3 && decide ((o, a) ∈ zx_stab)
    | 15 => match b with
      | 0 => decide (n = 3) && zx_dd cc pc (.invokestatic a) 3 && decide ((o, a) ∈ zx_mintab)
      | 1 => decide (n = 3) && zx_dd cc pc (.invokestatic a) 3 && decide ((o, a) ∈ zx_maxtab)
      | _ => false
    | 16 => decide (n = 3) && zx_dd cc pc (.invokestatic a) 3 && decide ((o, a) ∈ zx_cpytab)
    | 20 => decide (n = 3) && zx_dd cc pc (.if_icmp (zx_cnd b) ((a : Int) - (pc : Int))) 3
    | 21 => decide (n = 3) && zx_dd cc pc (.ifCond (zx_cnd b) ((a : Int) - (pc : Int))) 3
    | 22 => decide (n = 4) && zx_dd cc pc .lcmp 1 && zx_dd cc (pc + 1) (.ifCond (zx_cnd b) ((a : Int) - ((pc + 1 : Nat) : Int))) 3
    | 30 => decide (n = 3) && zx_dd cc pc (.invokevirtual a) 3 && as.all (fun q => decide ((o, a, b, q.1, q.2) ∈ zx_vtab))
    | 31 => decide (n = 3) && zx_dd cc pc (.invokestatic a) 3 && as.all (fun q => decide ((o, a, b, q.1, q.2) ∈ zx_stab2))
    | 40 => match b with
      | 0 => zx_dd cc pc .return_ 1 && decide (ret = none)
      | 1 => zx_dd cc pc .ireturn 1 && decide (ret = some .int)
      | 2 => zx_dd cc pc .lreturn 1 && decide (ret = some .long)
      | 3 => zx_dd cc pc .areturn 1 && (match ret with
        | some (.object _) => true
        | _ => false)
      | 4 => zx_dd cc pc .ireturn 1 && decide (ret = some .boolean)
      | _ => false
    | _ => false
def zx_okK (o : Nat) (ret : Option FieldType) (cc : ByteArray) (g : List (Nat × Nat × zx_I)) : Bool := g.all (fun e => zx_okB o ret cc e.1 e.2.1 e.2.2)
theorem zx_at1_mem : ∀ (g : List (Nat × Nat × zx_I)) (pc : Nat) (q : Nat × zx_I), zx_at1 g pc = some q → (pc, q.1, q.2) ∈ g
  | [], _, _, h => by cases h
  | e :: r, pc, q, h => by
    unfold zx_at1 at h
    split at h
    · rename_i he
      cases h
      subst he
      exact List.mem_cons_self
    · exact List.mem_cons_of_mem _ (zx_at1_mem r pc q h)
theorem zx_at_mem : ∀ (K : zx_K) (pc : Nat) (q : Nat × zx_I), zx_at K pc = some q → ∃ g ∈ K, (pc, q.1, q.2) ∈ g.2
  | [], _, _, h => by cases h
  | g :: r, pc, q, h => by
    unfold zx_at at h
    split at h
    · exact ⟨g, List.mem_cons_self, zx_at1_mem g.2 pc q h⟩
    · obtain ⟨g', h1, h2⟩ := zx_at_mem r pc q h
      exact ⟨g', List.mem_cons_of_mem _ h1, h2⟩
theorem zx_dd_spec {cc : ByteArray} {pc n : Nat} {i : Instr} (h : zx_dd cc pc i n = true) : decode cc pc = .ok (i, n) := of_decide_eq_true h
theorem zx_ok_at {o : Nat} {ret : Option FieldType} {cc : ByteArray} {K : zx_K} (hK : ∀ g ∈ K, zx_okK o ret cc g.2 = true) {pc n : Nat} {e : zx_I} (h : zx_at K pc = some (n, e)) : zx_okB o ret cc pc n e = true := by
  obtain ⟨g, h1, h2⟩ := zx_at_mem K pc (n, e) h
  exact List.all_eq_true.mp (hK g h1) (pc, n, e) h2
