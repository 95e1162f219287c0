/-! THE MINI MACHINE: what a method of the claim does, over whole numbers and a plain memory -/
def w32 (x : Int) : Int := (x + 2147483648) % 4294967296 - 2147483648
def w64 (x : Int) : Int := (x + 9223372036854775808) % 18446744073709551616 - 9223372036854775808
def w16 (x : Int) : Int := (x + 32768) % 65536 - 32768
def w8 (x : Int) : Int := (x + 128) % 256 - 128
def mUp (h : mm_M) (c : Nat) (i v : Int) : mm_M := fun c' i' => if c' = c ∧ i' = i then v else h c' i'
def mCpy (h : mm_M) (a : Nat) (p : Int) (b : Nat) (q n : Int) : mm_M := fun c i => if c = b ∧ q ≤ i ∧ i < q + n then h a (p + (i - q)) else h c i
def iAnd (x y : Int) : Int := (Int32.ofInt x &&& Int32.ofInt y).toInt
def iOr (x y : Int) : Int := (Int32.ofInt x ||| Int32.ofInt y).toInt
def iXor (x y : Int) : Int := (Int32.ofInt x ^^^ Int32.ofInt y).toInt
def iShl (x y : Int) : Int := (Int32.ofInt x <<< (Int32.ofInt y &&& 31)).toInt
def iShr (x y : Int) : Int := (Int32.ofInt x >>> (Int32.ofInt y &&& 31)).toInt
def iUshr (x y : Int) : Int := ((Int32.ofInt x).toUInt32 >>> ((Int32.ofInt y).toUInt32 &&& Int32.toUInt32 31)).toInt32.toInt
def lAnd (x y : Int) : Int := (Int64.ofInt x &&& Int64.ofInt y).toInt
def lOr (x y : Int) : Int := (Int64.ofInt x ||| Int64.ofInt y).toInt
def lShl (x y : Int) : Int := (Int64.ofInt x <<< ((Int32.ofInt y).toInt64 &&& 63)).toInt
def lCmp (x y : Int) : Int := if y < x then 1 else if x = y then 0 else -1
/-- locals: a long takes two places, the second is empty -/
def mm_isL (v : Option (Option mm_V)) : Bool := match v with | some (some (.inr (.inl _))) => true | _ => false
def mm_kill (L : mm_L) (i : Nat) : mm_L := match i with | 0 => L | j + 1 => if mm_isL L[j]? then L.set j none else L
def mm_sto (L : mm_L) (i : Nat) (v : mm_V) : Option mm_L := if i < L.length then some ((mm_kill L i).set i (some v)) else none
def mm_stoL (L : mm_L) (i : Nat) (v : mm_V) : Option mm_L := if i + 1 < L.length then some (((mm_kill L i).set i (some v)).set (i + 1) none) else none
def mm_flat (a : List mm_V) : mm_L := a.flatMap (fun v => match v with | .inr (.inl x) => [some (vL x), none] | v => [some v])
def mm_ent (n : Nat) (a : List mm_V) : mm_L := mm_flat a ++ List.replicate (n - (mm_flat a).length) none
abbrev mm_N : Type := Nat × mm_L × List mm_V × mm_M
def mm_jmp (pc : Nat) (off : Int) (L : mm_L) (st : List mm_V) (h : mm_M) : Option mm_N := if 0 ≤ (pc : Int) + off then some (((pc : Int) + off).toNat, L, st, h) else none
def mm_ld (pc i k : Nat) (L : mm_L) (st : List mm_V) (h : mm_M) : Option mm_N := match L[i]? with
  | some (some (.inl x)) => if k = 0 then some (pc, L, vI x :: st, h) else none
  | some (some (.inr (.inl x))) => if k = 1 then some (pc, L, vL x :: st, h) else none
  | some (some (.inr (.inr x))) => if k = 2 then some (pc, L, vR x :: st, h) else none
  | _ => none
def mm_st1 (pc i : Nat) (L : mm_L) (st : List mm_V) (h : mm_M) : Option mm_N := match st with
  | .inl x :: st => (mm_sto L i (vI x)).bind (fun L' => some (pc, L', st, h))
  | _ => none
def mm_st2 (pc i : Nat) (L : mm_L) (st : List mm_V) (h : mm_M) : Option mm_N := match st with
  | .inr (.inl x) :: st => (mm_stoL L i (vL x)).bind (fun L' => some (pc, L', st, h))
  | _ => none
def mm_st3 (pc i : Nat) (L : mm_L) (st : List mm_V) (h : mm_M) : Option mm_N := match st with
  | .inr (.inr x) :: st => (mm_sto L i (vR x)).bind (fun L' => some (pc, L', st, h))
  | _ => none
def mm_inc (pc i : Nat) (n : Int) (L : mm_L) (st : List mm_V) (h : mm_M) : Option mm_N := match L[i]? with
  | some (some (.inl x)) => (mm_sto L i (vI (w32 (x + n)))).bind (fun L' => some (pc, L', st, h))
  | _ => none
def mm_1 (pc : Nat) (L : mm_L) (st : List mm_V) (h : mm_M) (f : Int → mm_V) : Option mm_N := match st with
  | .inl x :: st => some (pc, L, f x :: st, h)
  | _ => none
def mm_2 (pc : Nat) (L : mm_L) (st : List mm_V) (h : mm_M) (f : Int → Int → Option Int) : Option mm_N := match st with
  | .inl y :: .inl x :: st => (f x y).bind (fun z => some (pc, L, vI z :: st, h))
  | _ => none
def mm_3 (pc : Nat) (L : mm_L) (st : List mm_V) (h : mm_M) (f : Int → Int → Option mm_V) : Option mm_N := match st with
  | .inr (.inl y) :: .inr (.inl x) :: st => (f x y).bind (fun z => some (pc, L, z :: st, h))
  | _ => none
def mm_if (pc : Nat) (off : Int) (L : mm_L) (st : List mm_V) (h : mm_M) (p : Int → Bool) : Option mm_N := match st with
  | .inl x :: st => if 0 ≤ (pc : Int) + off then (if p x = true then some (((pc : Int) + off).toNat, L, st, h) else some (pc + 3, L, st, h)) else none
  | _ => none
def mm_ic (pc : Nat) (off : Int) (L : mm_L) (st : List mm_V) (h : mm_M) (p : Int → Int → Bool) : Option mm_N := match st with
  | .inl y :: .inl x :: st => if 0 ≤ (pc : Int) + off then (if p x y = true then some (((pc : Int) + off).toNat, L, st, h) else some (pc + 3, L, st, h)) else none
  | _ => none
def mm_cat1 (v : mm_V) : Bool := match v with | .inr (.inl _) => false | _ => true
def mm_al (c : Nat) (h : mm_M) : Int := if mm_ak c = 6 then h 110 (-1) else mm_an c
def mm_lda (pc k : Nat) (L : mm_L) (st : List mm_V) (h : mm_M) : Option mm_N := match st with
  | .inl i :: .inr (.inr c) :: st =>
    if 0 ≤ i ∧ i < mm_al c h then
      (if k = 1 ∧ mm_ak c = 5 then some (pc, L, vI (mm_ct c i) :: st, h)
       else if mm_ak c = k ∨ (k = 1 ∧ mm_ak c = 6) then some (pc, L, (if k = 2 then vL (h c i) else vI (h c i)) :: st, h)
       else none)
    else none
  | _ => none
def mm_sta (pc k : Nat) (L : mm_L) (st : List mm_V) (h : mm_M) : Option mm_N := match st with
  | .inl v :: .inl i :: .inr (.inr c) :: st =>
    if 0 ≤ i ∧ i < mm_an c then
      (if mm_ak c = k ∧ (k = 1 ∨ k = 3 ∨ k = 4) then some (pc, L, st, mUp h c i (if k = 3 then w8 v else if k = 4 then w16 v else v)) else none)
    else none
  | .inr (.inl v) :: .inl i :: .inr (.inr c) :: st =>
    if 0 ≤ i ∧ i < mm_an c then (if mm_ak c = k ∧ k = 2 then some (pc, L, st, mUp h c i v) else none) else none
  | _ => none
def mm_gf (pc : Nat) (f : Option (Nat × Nat)) (L : mm_L) (st : List mm_V) (h : mm_M) : Option mm_N := match f, st with
  | some (ci, k), .inr (.inr c) :: st =>
    if mm_oc c = some ci ∧ mm_ak c = 0 then
      (if mm_fk ci k ≤ 1 then some (pc, L, vI (h c k) :: st, h)
       else if mm_fk ci k = 2 then some (pc, L, vR (mm_rf c k) :: st, h)
       else if mm_fk ci k = 3 then some (pc, L, vR (h c k).toNat :: st, h) else none)
    else none
  | _, _ => none
def mm_pf (pc : Nat) (f : Option (Nat × Nat)) (L : mm_L) (st : List mm_V) (h : mm_M) : Option mm_N := match f, st with
  | some (ci, k), .inl v :: .inr (.inr c) :: st =>
    if mm_oc c = some ci ∧ mm_ak c = 0 then
      (if mm_fk ci k = 0 ∨ (mm_fk ci k = 1 ∧ (v = 0 ∨ v = 1)) then some (pc, L, st, mUp h c k v) else none)
    else none
  | some (ci, k), .inr (.inr v) :: .inr (.inr c) :: st =>
    if mm_oc c = some ci ∧ mm_ak c = 0 ∧ mm_fk ci k = 3 ∧ v < 1000 then some (pc, L, st, mUp h c k v) else none
  | _, _ => none
/-- how many words a stack takes -/
def mm_cs (st : List mm_V) : Nat := (st.map (fun v => match v with | .inr (.inl _) => 2 | _ => 1)).sum
/-- Math's and System's own, by the kit's rows -/
def mm_nat (pc k : Nat) (L : mm_L) (st : List mm_V) (h : mm_M) : Option mm_N := match k, st with
  | 2, .inl y :: .inl x :: st => if mm_cs st ≤ 8 then some (pc, L, vI (if x < y then y else x) :: st, h) else none
  | 3, .inl y :: .inl x :: st => if mm_cs st ≤ 8 then some (pc, L, vI (if y < x then y else x) :: st, h) else none
  | 4, .inl x :: st => if mm_cs st ≤ 8 then some (pc, L, vI (if 0 ≤ x then x else w32 (0 - x)) :: st, h) else none
  | 5, .inl n :: .inl q :: .inr (.inr b) :: .inl p :: .inr (.inr a) :: st =>
    if mm_cs st ≤ 8 ∧ (mm_ak b = 1 ∨ mm_ak b = 2) ∧ mm_ak a = mm_ak b then
      (if 0 ≤ p ∧ 0 ≤ q ∧ 0 ≤ n ∧ p + n ≤ mm_an a ∧ q + n ≤ mm_an b then some (pc, L, st, mCpy h a p b q n) else none) else none
  | _, _ => none
def mm_s (K : mm_K) (pc : Nat) (ins : Instr) (L : mm_L) (st : List mm_V) (h : mm_M) : Option mm_N :=
  match ins with
  | .iconst n => some (pc + 1, L, vI (w32 n) :: st, h)
  | .bipush n => some (pc + 2, L, vI (w8 n) :: st, h)
  | .sipush n => some (pc + 3, L, vI (w16 n) :: st, h)
  | .lconst n => some (pc + 1, L, vL ((n : Nat) : Int) :: st, h)
  | .ldc i => (mm_cI K.2.2.2.1 i).bind (fun v => some (pc + 2, L, vI v :: st, h))
  | .ldc_w i => (mm_cI K.2.2.2.1 i).bind (fun v => some (pc + 3, L, vI v :: st, h))
  | .ldc2_w i => (mm_cL K.2.2.2.1 i).bind (fun v => some (pc + 3, L, vL v :: st, h))
  | .iload_n i => mm_ld (pc + 1) i 0 L st h
  | .iload i => mm_ld (pc + 2) i 0 L st h
  | .lload_n i => mm_ld (pc + 1) i 1 L st h
  | .lload i => mm_ld (pc + 2) i 1 L st h
  | .aload_n i => mm_ld (pc + 1) i 2 L st h
  | .aload i => mm_ld (pc + 2) i 2 L st h
  | .istore_n i => mm_st1 (pc + 1) i L st h
  | .istore i => mm_st1 (pc + 2) i L st h
  | .lstore_n i => mm_st2 (pc + 1) i L st h
  | .lstore i => mm_st2 (pc + 2) i L st h
  | .astore_n i => mm_st3 (pc + 1) i L st h
  | .iinc i n => mm_inc (pc + 3) i n L st h
  | .iadd => mm_2 (pc + 1) L st h (fun x y => some (w32 (x + y)))
  | .isub => mm_2 (pc + 1) L st h (fun x y => some (w32 (x - y)))
  | .imul => mm_2 (pc + 1) L st h (fun x y => some (w32 (x * y)))
  | .idiv => mm_2 (pc + 1) L st h (fun x y => if y = 0 then none else some (w32 (x.tdiv y)))
  | .irem => mm_2 (pc + 1) L st h (fun x y => if y = 0 then none else some (x.tmod y))
  | .iand => mm_2 (pc + 1) L st h (fun x y => some (iAnd x y))
  | .ior => mm_2 (pc + 1) L st h (fun x y => some (iOr x y))
  | .ixor => mm_2 (pc + 1) L st h (fun x y => some (iXor x y))
  | .ishl => mm_2 (pc + 1) L st h (fun x y => some (iShl x y))
  | .ishr => mm_2 (pc + 1) L st h (fun x y => some (iShr x y))
  | .iushr => mm_2 (pc + 1) L st h (fun x y => some (iUshr x y))
  | .ineg => mm_1 (pc + 1) L st h (fun x => vI (w32 (-x)))
  | .i2l => mm_1 (pc + 1) L st h (fun x => vL x)
  | .i2b => mm_1 (pc + 1) L st h (fun x => vI (w8 x))
  | .i2s => mm_1 (pc + 1) L st h (fun x => vI (w16 x))
  | .l2i => (match st with | .inr (.inl x) :: st => some (pc + 1, L, vI (w32 x) :: st, h) | _ => none)
  | .ladd => mm_3 (pc + 1) L st h (fun x y => some (vL (w64 (x + y))))
  | .lsub => mm_3 (pc + 1) L st h (fun x y => some (vL (w64 (x - y))))
  | .lmul => mm_3 (pc + 1) L st h (fun x y => some (vL (w64 (x * y))))
  | .ldiv => mm_3 (pc + 1) L st h (fun x y => if y = 0 then none else some (vL (w64 (x.tdiv y))))
  | .lrem => mm_3 (pc + 1) L st h (fun x y => if y = 0 then none else some (vL (x.tmod y)))
  | .land => mm_3 (pc + 1) L st h (fun x y => some (vL (lAnd x y)))
  | .lor => mm_3 (pc + 1) L st h (fun x y => some (vL (lOr x y)))
  | .lcmp => mm_3 (pc + 1) L st h (fun x y => some (vI (lCmp x y)))
  | .lshl => (match st with | .inl y :: .inr (.inl x) :: st => some (pc + 1, L, vL (lShl x y) :: st, h) | _ => none)
  | .dup => (match st with | v :: st => if mm_cat1 v then some (pc + 1, L, v :: v :: st, h) else none | _ => none)
  | .pop => (match st with | v :: st => if mm_cat1 v then some (pc + 1, L, st, h) else none | _ => none)
  | .dup2 => (match st with | v :: w :: st => if mm_cat1 v && mm_cat1 w then some (pc + 1, L, v :: w :: v :: w :: st, h) else none | _ => none)
  | .ifCond .eq off => mm_if pc off L st h (fun x => decide (x = 0))
  | .ifCond .ne off => mm_if pc off L st h (fun x => decide (¬ x = 0))
  | .ifCond .lt off => mm_if pc off L st h (fun x => decide (x < 0))
  | .ifCond .ge off => mm_if pc off L st h (fun x => decide (0 ≤ x))
  | .ifCond .gt off => mm_if pc off L st h (fun x => decide (0 < x))
  | .ifCond .le off => mm_if pc off L st h (fun x => decide (x ≤ 0))
  | .if_icmp .eq off => mm_ic pc off L st h (fun x y => decide (x = y))
  | .if_icmp .ne off => mm_ic pc off L st h (fun x y => decide (¬ x = y))
  | .if_icmp .lt off => mm_ic pc off L st h (fun x y => decide (x < y))
  | .if_icmp .ge off => mm_ic pc off L st h (fun x y => decide (y ≤ x))
  | .if_icmp .gt off => mm_ic pc off L st h (fun x y => decide (y < x))
  | .if_icmp .le off => mm_ic pc off L st h (fun x y => decide (x ≤ y))
  | .goto off => mm_jmp pc off L st h
  | .tableswitch d lo hi offs => (match st with | .inl x :: st => if x < lo ∨ hi < x then mm_jmp pc d L st h else (match offs[(x - lo).toNat]? with | some off => mm_jmp pc off L st h | none => none) | _ => none)
  | .lookupswitch d ps => (match st with | .inl x :: st => if (ps.toList.zip (ps.toList.drop 1)).all (fun (a, next) => a.1 < next.1) = true then mm_jmp pc (Op.lookupswitch.offset ps.toList d x) L st h else none | _ => none)
  | .iaload => mm_lda (pc + 1) 1 L st h
  | .laload => mm_lda (pc + 1) 2 L st h
  | .baload => mm_lda (pc + 1) 3 L st h
  | .saload => mm_lda (pc + 1) 4 L st h
  | .iastore => mm_sta (pc + 1) 1 L st h
  | .lastore => mm_sta (pc + 1) 2 L st h
  | .bastore => mm_sta (pc + 1) 3 L st h
  | .sastore => mm_sta (pc + 1) 4 L st h
  | .arraylength => (match st with | .inr (.inr c) :: st => if (1 ≤ mm_ak c ∧ mm_ak c ≤ 4) ∨ mm_ak c = 6 then some (pc + 1, L, vI (mm_al c h) :: st, h) else none | _ => none)
  | .getfield i => mm_gf (pc + 3) (mm_fl K.2.2.2.1 i) L st h
  | .putfield i => mm_pf (pc + 3) (mm_fl K.2.2.2.1 i) L st h
  | .getstatic i => (mm_st K.2.2.2.1 i).bind (fun c => some (pc + 3, L, vR c :: st, h))
  | .invokestatic i => (match mm_ml K.2.2.2.1 i with | some (k, _, _) => mm_nat (pc + 3) k L st h | none => none)
  | _ => none
def mm_ret (ins : Instr) (k : Nat) (st : List mm_V) : Option (List mm_V) :=
  match ins with
  | .ireturn => (match st with | [.inl x] => if k = 1 ∨ (k = 2 ∧ (x = 0 ∨ x = 1)) then some [vI x] else none | _ => none)
  | .lreturn => (match st with | [.inr (.inl x)] => if k = 3 then some [vL x] else none | _ => none)
  | .return_ => (match st with | [] => if k = 0 then some [] else none | _ => none)
  | _ => none
/-- a call: whom, with what, and what is left -/
def mm_inv (ins : Instr) (c : Nat) (st : List mm_V) : Option (Nat × List mm_V × List mm_V) :=
  match ins with
  | .invokevirtual i => (match mm_ml c i with
    | some (0, n, k) => (match st.drop n with | .inr (.inr o) :: rest => if mm_oc o = some (mm_k k).2.2.2.1 ∧ mm_ak o = 0 ∧ (st.take n).length = n then some (k, vR o :: (st.take n).reverse, rest) else none | _ => none)
    | _ => none)
  | .invokestatic i => (match mm_ml c i with
    | some (1, n, k) => if (st.take n).length = n then some (k, (st.take n).reverse, st.drop n) else none
    | _ => none)
  | _ => none
def mm_ln (ins : Instr) : Nat := match ins with
  | .bipush _ | .ldc _ | .iload _ | .lload _ | .aload _ | .istore _ | .lstore _ => 2
  | .sipush _ | .ldc_w _ | .ldc2_w _ | .iinc _ _ | .ifCond _ _ | .if_icmp _ _ | .goto _ | .getfield _ | .putfield _ | .getstatic _ | .invokestatic _ | .invokevirtual _ => 3
  | _ => 1
def mm_lok (ins : Instr) (len : Nat) : Bool := match ins with
  | .tableswitch _ _ _ _ => true
  | .lookupswitch _ _ => true
  | i => len == mm_ln i
abbrev mm_O : Type := Option (List mm_V × mm_M)
def mm_step (F : mm_K → Nat → mm_L → mm_M → mm_O) (G : Nat → mm_L → List mm_V → mm_M → mm_O) (K : mm_K) (r pc : Nat) (L : mm_L) (st : List mm_V) (h : mm_M) : mm_O :=
  match decode K.1 pc with
  | .ok (ins, len) =>
    if mm_lok ins len = true then
      match mm_ret ins K.2.2.1 st with
      | some v => some (v, h)
      | none =>
        match mm_inv ins K.2.2.2.1 st with
        | some (k, a, rest) =>
          if mm_rk (mm_k k) a h < r ∧ mm_cs rest ≤ 8 ∧ (mm_flat a).length ≤ (mm_k k).2.1 then
            (F (mm_k k) (mm_rk (mm_k k) a h) (mm_ent (mm_k k).2.1 a) h).bind (fun q => G (pc + 3) L (q.1 ++ rest) q.2)
          else none
        | none => (mm_s K pc ins L st h).bind (fun q => G q.1 q.2.1 q.2.2.1 q.2.2.2)
    else none
  | .error _ => none
def mm_ex : Nat → mm_K → Nat → Nat → mm_L → List mm_V → mm_M → mm_O
  | 0 => fun _ _ _ _ _ _ => none
  | n + 1 => fun K r pc L st h => mm_step (fun K' r' L' h' => mm_ex n K' r' 0 L' [] h') (fun pc' L' st' h' => mm_ex n K r pc' L' st' h') K r pc L st h
theorem mm_ex_s (n : Nat) (K : mm_K) (r pc : Nat) (L : mm_L) (st : List mm_V) (h : mm_M) : mm_ex (n + 1) K r pc L st h = mm_step (fun K' r' L' h' => mm_ex n K' r' 0 L' [] h') (fun pc' L' st' h' => mm_ex n K r pc' L' st' h') K r pc L st h := rfl
theorem mm_step_mono {F F' : mm_K → Nat → mm_L → mm_M → mm_O} {G G' : Nat → mm_L → List mm_V → mm_M → mm_O} (hF : ∀ K r L h q, F K r L h = some q → F' K r L h = some q) (hG : ∀ pc L st h q, G pc L st h = some q → G' pc L st h = some q) (K : mm_K) (r pc : Nat) (L : mm_L) (st : List mm_V) (h : mm_M) (q : List mm_V × mm_M) (e : mm_step F G K r pc L st h = some q) : mm_step F' G' K r pc L st h = some q := by
  unfold mm_step at e ⊢
  split at e
  · rename_i ins len hd
    by_cases hl : mm_lok ins len = true
    · rw [if_pos hl] at e ⊢
      cases hr : mm_ret ins K.2.2.1 st with
      | some v => rw [hr] at e; exact e
      | none =>
        rw [hr] at e
        dsimp only at e ⊢
        cases hi : mm_inv ins K.2.2.2.1 st with
        | some z =>
          obtain ⟨k, a, rest⟩ := z
          rw [hi] at e
          dsimp only at e ⊢
          split at e
          · rename_i hc
            rw [if_pos hc]
            cases hf : F (mm_k k) (mm_rk (mm_k k) a h) (mm_ent (mm_k k).2.1 a) h with
            | none => rw [hf] at e; cases e
            | some w => rw [hf] at e; rw [hF _ _ _ _ _ hf]; exact hG _ _ _ _ _ e
          · cases e
        | none =>
          rw [hi] at e
          dsimp only at e ⊢
          cases hs : mm_s K pc ins L st h with
          | none => rw [hs] at e; cases e
          | some w => rw [hs] at e; exact hG _ _ _ _ _ e
    · rw [if_neg hl] at e; cases e
  · cases e
theorem mm_ex_succ (n : Nat) : ∀ K r pc L st h q, mm_ex n K r pc L st h = some q → mm_ex (n + 1) K r pc L st h = some q := by
  induction n with
  | zero => intro K r pc L st h q e; cases e
  | succ n ih =>
    intro K r pc L st h q e
    exact mm_step_mono (fun K' r' L' h' q' e' => ih K' r' 0 L' [] h' q' e') (fun pc' L' st' h' q' e' => ih K r pc' L' st' h' q' e') K r pc L st h q e
theorem mm_ex_le {n m : Nat} (hnm : n ≤ m) {K : mm_K} {r pc : Nat} {L : mm_L} {st : List mm_V} {h : mm_M} {q : List mm_V × mm_M} (e : mm_ex n K r pc L st h = some q) : mm_ex m K r pc L st h = some q := by
  induction hnm with
  | refl => exact e
  | step _ ih => exact mm_ex_succ _ _ _ _ _ _ _ _ ih
/-- what the run comes to, however long it takes -/
noncomputable def mm_ev (K : mm_K) (r pc : Nat) (L : mm_L) (st : List mm_V) (h : mm_M) : mm_O :=
  @dite _ (∃ q n, mm_ex n K r pc L st h = some q) (Classical.propDecidable _) (fun e => some e.choose) (fun _ => none)
theorem mm_ev_of {n : Nat} {K : mm_K} {r pc : Nat} {L : mm_L} {st : List mm_V} {h : mm_M} {q : List mm_V × mm_M} (e : mm_ex n K r pc L st h = some q) : mm_ev K r pc L st h = some q := by
  have hh : ∃ q n, mm_ex n K r pc L st h = some q := ⟨q, n, e⟩
  unfold mm_ev
  rw [dif_pos hh]
  obtain ⟨m, em⟩ := hh.choose_spec
  have a := mm_ex_le (Nat.le_max_left n m) e
  have b := mm_ex_le (Nat.le_max_right n m) em
  rw [a] at b
  exact b.symm
theorem mm_ev_some {K : mm_K} {r pc : Nat} {L : mm_L} {st : List mm_V} {h : mm_M} {q : List mm_V × mm_M} (e : mm_ev K r pc L st h = some q) : ∃ n, mm_ex n K r pc L st h = some q := by
  unfold mm_ev at e
  by_cases hh : ∃ q n, mm_ex n K r pc L st h = some q
  · rw [dif_pos hh] at e
    cases e
    exact hh.choose_spec
  · rw [dif_neg hh] at e
    cases e
noncomputable def mm_F : mm_K → Nat → mm_L → mm_M → mm_O := fun K' r' L' h' => mm_ev K' r' 0 L' [] h'
theorem mm_step_fin {K : mm_K} {r pc : Nat} {L : mm_L} {st : List mm_V} {h : mm_M} {q : List mm_V × mm_M} (e : mm_step mm_F (mm_ev K r) K r pc L st h = some q) : ∃ n, mm_ex n K r pc L st h = some q := by
  unfold mm_step at e
  split at e
  · rename_i ins len hd
    by_cases hl : mm_lok ins len = true
    · rw [if_pos hl] at e
      cases hr : mm_ret ins K.2.2.1 st with
      | some v =>
        rw [hr] at e
        refine ⟨0 + 1, ?_⟩
        rw [mm_ex_s]
        unfold mm_step
        rw [hd]
        dsimp only
        rw [if_pos hl, hr]
        exact e
      | none =>
        rw [hr] at e
        dsimp only at e
        cases hi : mm_inv ins K.2.2.2.1 st with
        | some z =>
          obtain ⟨k, a, rest⟩ := z
          rw [hi] at e
          dsimp only at e
          split at e
          · rename_i hc
            cases hf : mm_F (mm_k k) (mm_rk (mm_k k) a h) (mm_ent (mm_k k).2.1 a) h with
            | none => rw [hf] at e; cases e
            | some w =>
              rw [hf] at e
              obtain ⟨n1, e1⟩ := mm_ev_some hf
              obtain ⟨n2, e2⟩ := mm_ev_some e
              refine ⟨max n1 n2 + 1, ?_⟩
              rw [mm_ex_s]
              unfold mm_step
              rw [hd]
              dsimp only
              rw [if_pos hl, hr, hi]
              dsimp only
              rw [if_pos hc, mm_ex_le (Nat.le_max_left n1 n2) e1]
              exact mm_ex_le (Nat.le_max_right n1 n2) e2
          · cases e
        | none =>
          rw [hi] at e
          dsimp only at e
          cases hs : mm_s K pc ins L st h with
          | none => rw [hs] at e; cases e
          | some w =>
            rw [hs] at e
            obtain ⟨n2, e2⟩ := mm_ev_some e
            refine ⟨n2 + 1, ?_⟩
            rw [mm_ex_s]
            unfold mm_step
            rw [hd]
            dsimp only
            rw [if_pos hl, hr, hi]
            dsimp only
            rw [hs]
            exact e2
    · rw [if_neg hl] at e; cases e
  · cases e
theorem mm_ev_step (K : mm_K) (r pc : Nat) (L : mm_L) (st : List mm_V) (h : mm_M) : mm_ev K r pc L st h = mm_step mm_F (mm_ev K r) K r pc L st h := by
  cases e : mm_step mm_F (mm_ev K r) K r pc L st h with
  | some q =>
    obtain ⟨n, en⟩ := mm_step_fin e
    exact mm_ev_of en
  | none =>
    cases e2 : mm_ev K r pc L st h with
    | none => rfl
    | some q =>
      obtain ⟨n, en⟩ := mm_ev_some e2
      cases n with
      | zero => cases en
      | succ n =>
        have := mm_step_mono (F' := mm_F) (G' := mm_ev K r) (fun K' r' L' h' q' e' => mm_ev_of e') (fun pc' L' st' h' q' e' => mm_ev_of e') K r pc L st h q en
        rw [e] at this
        cases this
/-- a method, called -/
noncomputable def mm_call (K : mm_K) (a : List mm_V) (h : mm_M) : mm_O := mm_ev K (mm_rk K a h) 0 (mm_ent K.2.1 a) [] h
/-! the instructions, as equations -/
section EV
variable {K : mm_K} {r pc : Nat} {L : mm_L} {st : List mm_V} {h : mm_M}
theorem ev_go {ins : Instr} {len : Nat} {pc' : Nat} {L' : mm_L} {st' : List mm_V} {h' : mm_M} (hd : decode K.1 pc = .ok (ins, len)) (hl : mm_lok ins len = true) (hr : mm_ret ins K.2.2.1 st = none) (hi : mm_inv ins K.2.2.2.1 st = none) (hs : mm_s K pc ins L st h = some (pc', L', st', h')) : mm_ev K r pc L st h = mm_ev K r pc' L' st' h' := by
  rw [mm_ev_step]
  unfold mm_step
  rw [hd]
  dsimp only
  rw [if_pos hl, hr]
  dsimp only
  rw [hi]
  dsimp only
  rw [hs]
  rfl
theorem ev_stuck {ins : Instr} {len : Nat} (hd : decode K.1 pc = .ok (ins, len)) (hr : mm_ret ins K.2.2.1 st = none) (hi : mm_inv ins K.2.2.2.1 st = none) (hs : mm_s K pc ins L st h = none) : mm_ev K r pc L st h = none := by
  rw [mm_ev_step]
  unfold mm_step
  rw [hd]
  dsimp only
  rw [hr]
  dsimp only
  rw [hi]
  dsimp only
  rw [hs]
  split <;> rfl
theorem ev_ret {ins : Instr} {len : Nat} {v : List mm_V} (hd : decode K.1 pc = .ok (ins, len)) (hl : mm_lok ins len = true) (hr : mm_ret ins K.2.2.1 st = some v) : mm_ev K r pc L st h = some (v, h) := by
  rw [mm_ev_step]
  unfold mm_step
  rw [hd]
  dsimp only
  rw [if_pos hl, hr]
end EV
