/-! the instructions as equations; q is the next place -/
theorem mm_ite {α : Type} {c : Prop} [i : Decidable c] {a b a' b' : α} (h1 : a = a') (h2 : b = b') : (if c then a else b) = (if c then a' else b') := by rw [h1, h2]
section OPS
variable {K : mm_K} {r pc : Nat} {L L' : mm_L} {st : List mm_V} {h : mm_M}
theorem ev_to {ins : Instr} {len : Nat} {q : Nat} {L' : mm_L} {st' : List mm_V} {h' : mm_M} (hd : decode K.1 pc = .ok (ins, len)) (hl : mm_lok ins len = true) (hr : mm_ret ins K.2.2.1 st = none) (hi : mm_inv ins K.2.2.2.1 st = none) (hs : mm_s K pc ins L st h = some (q, L', st', h')) : mm_ev K r pc L st h = mm_ev K r q L' st' h' := ev_go hd hl hr hi hs
theorem ev_iconst (q : Nat) {n : Int} {v : Int} (hd : decode K.1 pc = .ok (.iconst n, 1)) (hv : w32 n = v) (hq : pc + 1 = q) : mm_ev K r pc L st h = mm_ev K r q L (vI v :: st) h := by subst hq; subst hv; exact ev_go hd rfl rfl rfl rfl
theorem ev_bipush (q : Nat) {n : Int} {v : Int} (hd : decode K.1 pc = .ok (.bipush n, 2)) (hv : w8 n = v) (hq : pc + 2 = q) : mm_ev K r pc L st h = mm_ev K r q L (vI v :: st) h := by subst hq; subst hv; exact ev_go hd rfl rfl rfl rfl
theorem ev_sipush (q : Nat) {n : Int} {v : Int} (hd : decode K.1 pc = .ok (.sipush n, 3)) (hv : w16 n = v) (hq : pc + 3 = q) : mm_ev K r pc L st h = mm_ev K r q L (vI v :: st) h := by subst hq; subst hv; exact ev_go hd rfl rfl rfl rfl
theorem ev_lconst (q : Nat) {n : Fin 2} {v : Int} (hd : decode K.1 pc = .ok (.lconst n, 1)) (hv : ((n : Nat) : Int) = v) (hq : pc + 1 = q) : mm_ev K r pc L st h = mm_ev K r q L (vL v :: st) h := by subst hq; subst hv; exact ev_go hd rfl rfl rfl rfl
theorem ev_ldc (q : Nat) {i : Nat} {v : Int} (hd : decode K.1 pc = .ok (.ldc i, 2)) (hv : mm_cI K.2.2.2.1 i = some v) (hq : pc + 2 = q) : mm_ev K r pc L st h = mm_ev K r q L (vI v :: st) h := by
  subst hq
  refine ev_go hd rfl rfl rfl ?_
  show (mm_cI K.2.2.2.1 i).bind _ = _
  rw [hv]; rfl
theorem ev_ldc_w (q : Nat) {i : Nat} {v : Int} (hd : decode K.1 pc = .ok (.ldc_w i, 3)) (hv : mm_cI K.2.2.2.1 i = some v) (hq : pc + 3 = q) : mm_ev K r pc L st h = mm_ev K r q L (vI v :: st) h := by
  subst hq
  refine ev_go hd rfl rfl rfl ?_
  show (mm_cI K.2.2.2.1 i).bind _ = _
  rw [hv]; rfl
theorem ev_ldc2_w (q : Nat) {i : Nat} {v : Int} (hd : decode K.1 pc = .ok (.ldc2_w i, 3)) (hv : mm_cL K.2.2.2.1 i = some v) (hq : pc + 3 = q) : mm_ev K r pc L st h = mm_ev K r q L (vL v :: st) h := by
  subst hq
  refine ev_go hd rfl rfl rfl ?_
  show (mm_cL K.2.2.2.1 i).bind _ = _
  rw [hv]; rfl
theorem mm_ld_i {i q : Nat} {x : Int} (hl : L[i]? = some (some (vI x))) : mm_ld q i 0 L st h = some (q, L, vI x :: st, h) := by unfold mm_ld; rw [hl]; rfl
theorem ev_iload_n (q : Nat) {i : Fin 4} {x : Int} (hd : decode K.1 pc = .ok (.iload_n i, 1)) (hl : L[(i : Nat)]? = some (some (vI x))) (hq : pc + 1 = q) : mm_ev K r pc L st h = mm_ev K r q L (vI x :: st) h := by subst hq; exact ev_go hd rfl rfl rfl (mm_ld_i hl)
theorem ev_iload (q : Nat) {i : Nat} {x : Int} (hd : decode K.1 pc = .ok (.iload i, 2)) (hl : L[i]? = some (some (vI x))) (hq : pc + 2 = q) : mm_ev K r pc L st h = mm_ev K r q L (vI x :: st) h := by subst hq; exact ev_go hd rfl rfl rfl (mm_ld_i hl)
theorem ev_istore_n (q : Nat) (L' : mm_L) {i : Fin 4} {x : Int} (hd : decode K.1 pc = .ok (.istore_n i, 1)) (hl : mm_sto L (i : Nat) (vI x) = some L') (hq : pc + 1 = q) : mm_ev K r pc L (vI x :: st) h = mm_ev K r q L' st h := by
  subst hq
  refine ev_go hd rfl rfl rfl ?_
  show (mm_sto L (i : Nat) (vI x)).bind _ = _
  rw [hl]; rfl
theorem ev_istore (q : Nat) (L' : mm_L) {i : Nat} {x : Int} (hd : decode K.1 pc = .ok (.istore i, 2)) (hl : mm_sto L i (vI x) = some L') (hq : pc + 2 = q) : mm_ev K r pc L (vI x :: st) h = mm_ev K r q L' st h := by
  subst hq
  refine ev_go hd rfl rfl rfl ?_
  show (mm_sto L i (vI x)).bind _ = _
  rw [hl]; rfl
theorem mm_ld_l {i q : Nat} {x : Int} (hl : L[i]? = some (some (vL x))) : mm_ld q i 1 L st h = some (q, L, vL x :: st, h) := by unfold mm_ld; rw [hl]; rfl
theorem ev_lload_n (q : Nat) {i : Fin 4} {x : Int} (hd : decode K.1 pc = .ok (.lload_n i, 1)) (hl : L[(i : Nat)]? = some (some (vL x))) (hq : pc + 1 = q) : mm_ev K r pc L st h = mm_ev K r q L (vL x :: st) h := by subst hq; exact ev_go hd rfl rfl rfl (mm_ld_l hl)
theorem ev_lload (q : Nat) {i : Nat} {x : Int} (hd : decode K.1 pc = .ok (.lload i, 2)) (hl : L[i]? = some (some (vL x))) (hq : pc + 2 = q) : mm_ev K r pc L st h = mm_ev K r q L (vL x :: st) h := by subst hq; exact ev_go hd rfl rfl rfl (mm_ld_l hl)
theorem ev_lstore_n (q : Nat) (L' : mm_L) {i : Fin 4} {x : Int} (hd : decode K.1 pc = .ok (.lstore_n i, 1)) (hl : mm_stoL L (i : Nat) (vL x) = some L') (hq : pc + 1 = q) : mm_ev K r pc L (vL x :: st) h = mm_ev K r q L' st h := by
  subst hq
  refine ev_go hd rfl rfl rfl ?_
  show (mm_stoL L (i : Nat) (vL x)).bind _ = _
  rw [hl]; rfl
theorem ev_lstore (q : Nat) (L' : mm_L) {i : Nat} {x : Int} (hd : decode K.1 pc = .ok (.lstore i, 2)) (hl : mm_stoL L i (vL x) = some L') (hq : pc + 2 = q) : mm_ev K r pc L (vL x :: st) h = mm_ev K r q L' st h := by
  subst hq
  refine ev_go hd rfl rfl rfl ?_
  show (mm_stoL L i (vL x)).bind _ = _
  rw [hl]; rfl
theorem mm_ld_a {i q : Nat} {x : Nat} (hl : L[i]? = some (some (vR x))) : mm_ld q i 2 L st h = some (q, L, vR x :: st, h) := by unfold mm_ld; rw [hl]; rfl
theorem ev_aload_n (q : Nat) {i : Fin 4} {x : Nat} (hd : decode K.1 pc = .ok (.aload_n i, 1)) (hl : L[(i : Nat)]? = some (some (vR x))) (hq : pc + 1 = q) : mm_ev K r pc L st h = mm_ev K r q L (vR x :: st) h := by subst hq; exact ev_go hd rfl rfl rfl (mm_ld_a hl)
theorem ev_aload (q : Nat) {i : Nat} {x : Nat} (hd : decode K.1 pc = .ok (.aload i, 2)) (hl : L[i]? = some (some (vR x))) (hq : pc + 2 = q) : mm_ev K r pc L st h = mm_ev K r q L (vR x :: st) h := by subst hq; exact ev_go hd rfl rfl rfl (mm_ld_a hl)
theorem ev_astore_n (q : Nat) (L' : mm_L) {i : Fin 4} {x : Nat} (hd : decode K.1 pc = .ok (.astore_n i, 1)) (hl : mm_sto L (i : Nat) (vR x) = some L') (hq : pc + 1 = q) : mm_ev K r pc L (vR x :: st) h = mm_ev K r q L' st h := by
  subst hq
  refine ev_go hd rfl rfl rfl ?_
  show (mm_sto L (i : Nat) (vR x)).bind _ = _
  rw [hl]; rfl
theorem ev_iinc (q : Nat) (L' : mm_L) {i : Nat} {n x : Int} (hd : decode K.1 pc = .ok (.iinc i n, 3)) (hx : L[i]? = some (some (vI x))) (hl : mm_sto L i (vI (w32 (x + n))) = some L') (hq : pc + 3 = q) : mm_ev K r pc L st h = mm_ev K r q L' st h := by
  subst hq
  refine ev_go hd rfl rfl rfl ?_
  show mm_inc _ _ _ _ _ _ = _
  unfold mm_inc
  rw [hx]
  show (mm_sto L i (vI (w32 (x + n)))).bind _ = _
  rw [hl]; rfl
theorem ev_iadd (q : Nat) {x y : Int} (hd : decode K.1 pc = .ok (.iadd, 1)) (hq : pc + 1 = q) : mm_ev K r pc L (vI y :: vI x :: st) h = mm_ev K r q L (vI (w32 (x + y)) :: st) h := by subst hq; exact ev_go hd rfl rfl rfl rfl
theorem ev_isub (q : Nat) {x y : Int} (hd : decode K.1 pc = .ok (.isub, 1)) (hq : pc + 1 = q) : mm_ev K r pc L (vI y :: vI x :: st) h = mm_ev K r q L (vI (w32 (x - y)) :: st) h := by subst hq; exact ev_go hd rfl rfl rfl rfl
theorem ev_imul (q : Nat) {x y : Int} (hd : decode K.1 pc = .ok (.imul, 1)) (hq : pc + 1 = q) : mm_ev K r pc L (vI y :: vI x :: st) h = mm_ev K r q L (vI (w32 (x * y)) :: st) h := by subst hq; exact ev_go hd rfl rfl rfl rfl
theorem ev_iand (q : Nat) {x y : Int} (hd : decode K.1 pc = .ok (.iand, 1)) (hq : pc + 1 = q) : mm_ev K r pc L (vI y :: vI x :: st) h = mm_ev K r q L (vI (iAnd x y) :: st) h := by subst hq; exact ev_go hd rfl rfl rfl rfl
theorem ev_ior (q : Nat) {x y : Int} (hd : decode K.1 pc = .ok (.ior, 1)) (hq : pc + 1 = q) : mm_ev K r pc L (vI y :: vI x :: st) h = mm_ev K r q L (vI (iOr x y) :: st) h := by subst hq; exact ev_go hd rfl rfl rfl rfl
theorem ev_ixor (q : Nat) {x y : Int} (hd : decode K.1 pc = .ok (.ixor, 1)) (hq : pc + 1 = q) : mm_ev K r pc L (vI y :: vI x :: st) h = mm_ev K r q L (vI (iXor x y) :: st) h := by subst hq; exact ev_go hd rfl rfl rfl rfl
theorem ev_ishl (q : Nat) {x y : Int} (hd : decode K.1 pc = .ok (.ishl, 1)) (hq : pc + 1 = q) : mm_ev K r pc L (vI y :: vI x :: st) h = mm_ev K r q L (vI (iShl x y) :: st) h := by subst hq; exact ev_go hd rfl rfl rfl rfl
theorem ev_ishr (q : Nat) {x y : Int} (hd : decode K.1 pc = .ok (.ishr, 1)) (hq : pc + 1 = q) : mm_ev K r pc L (vI y :: vI x :: st) h = mm_ev K r q L (vI (iShr x y) :: st) h := by subst hq; exact ev_go hd rfl rfl rfl rfl
theorem ev_iushr (q : Nat) {x y : Int} (hd : decode K.1 pc = .ok (.iushr, 1)) (hq : pc + 1 = q) : mm_ev K r pc L (vI y :: vI x :: st) h = mm_ev K r q L (vI (iUshr x y) :: st) h := by subst hq; exact ev_go hd rfl rfl rfl rfl
theorem ev_ladd (q : Nat) {x y : Int} (hd : decode K.1 pc = .ok (.ladd, 1)) (hq : pc + 1 = q) : mm_ev K r pc L (vL y :: vL x :: st) h = mm_ev K r q L (vL (w64 (x + y)) :: st) h := by subst hq; exact ev_go hd rfl rfl rfl rfl
theorem ev_lsub (q : Nat) {x y : Int} (hd : decode K.1 pc = .ok (.lsub, 1)) (hq : pc + 1 = q) : mm_ev K r pc L (vL y :: vL x :: st) h = mm_ev K r q L (vL (w64 (x - y)) :: st) h := by subst hq; exact ev_go hd rfl rfl rfl rfl
theorem ev_lmul (q : Nat) {x y : Int} (hd : decode K.1 pc = .ok (.lmul, 1)) (hq : pc + 1 = q) : mm_ev K r pc L (vL y :: vL x :: st) h = mm_ev K r q L (vL (w64 (x * y)) :: st) h := by subst hq; exact ev_go hd rfl rfl rfl rfl
theorem ev_land (q : Nat) {x y : Int} (hd : decode K.1 pc = .ok (.land, 1)) (hq : pc + 1 = q) : mm_ev K r pc L (vL y :: vL x :: st) h = mm_ev K r q L (vL (lAnd x y) :: st) h := by subst hq; exact ev_go hd rfl rfl rfl rfl
theorem ev_lor (q : Nat) {x y : Int} (hd : decode K.1 pc = .ok (.lor, 1)) (hq : pc + 1 = q) : mm_ev K r pc L (vL y :: vL x :: st) h = mm_ev K r q L (vL (lOr x y) :: st) h := by subst hq; exact ev_go hd rfl rfl rfl rfl
theorem ev_lcmp (q : Nat) {x y : Int} (hd : decode K.1 pc = .ok (.lcmp, 1)) (hq : pc + 1 = q) : mm_ev K r pc L (vL y :: vL x :: st) h = mm_ev K r q L (vI (lCmp x y) :: st) h := by subst hq; exact ev_go hd rfl rfl rfl rfl
theorem ev_idiv (q : Nat) {x y : Int} (hd : decode K.1 pc = .ok (.idiv, 1)) (hq : pc + 1 = q) : mm_ev K r pc L (vI y :: vI x :: st) h = if y = 0 then none else mm_ev K r q L (vI (w32 (x.tdiv y)) :: st) h := by
  subst hq
  by_cases z : y = 0
  · rw [if_pos z]
    refine ev_stuck hd rfl rfl ?_
    show (if y = 0 then none else _ : Option _).bind _ = _
    rw [if_pos z]; rfl
  · rw [if_neg z]
    refine ev_go hd rfl rfl rfl ?_
    show (if y = 0 then none else _ : Option _).bind _ = _
    rw [if_neg z]; rfl
theorem ev_irem (q : Nat) {x y : Int} (hd : decode K.1 pc = .ok (.irem, 1)) (hq : pc + 1 = q) : mm_ev K r pc L (vI y :: vI x :: st) h = if y = 0 then none else mm_ev K r q L (vI (x.tmod y) :: st) h := by
  subst hq
  by_cases z : y = 0
  · rw [if_pos z]
    refine ev_stuck hd rfl rfl ?_
    show (if y = 0 then none else _ : Option _).bind _ = _
    rw [if_pos z]; rfl
  · rw [if_neg z]
    refine ev_go hd rfl rfl rfl ?_
    show (if y = 0 then none else _ : Option _).bind _ = _
    rw [if_neg z]; rfl
theorem ev_ldiv (q : Nat) {x y : Int} (hd : decode K.1 pc = .ok (.ldiv, 1)) (hq : pc + 1 = q) : mm_ev K r pc L (vL y :: vL x :: st) h = if y = 0 then none else mm_ev K r q L (vL (w64 (x.tdiv y)) :: st) h := by
  subst hq
  by_cases z : y = 0
  · rw [if_pos z]
    refine ev_stuck hd rfl rfl ?_
    show (if y = 0 then none else _ : Option _).bind _ = _
    rw [if_pos z]; rfl
  · rw [if_neg z]
    refine ev_go hd rfl rfl rfl ?_
    show (if y = 0 then none else _ : Option _).bind _ = _
    rw [if_neg z]; rfl
theorem ev_lrem (q : Nat) {x y : Int} (hd : decode K.1 pc = .ok (.lrem, 1)) (hq : pc + 1 = q) : mm_ev K r pc L (vL y :: vL x :: st) h = if y = 0 then none else mm_ev K r q L (vL (x.tmod y) :: st) h := by
  subst hq
  by_cases z : y = 0
  · rw [if_pos z]
    refine ev_stuck hd rfl rfl ?_
    show (if y = 0 then none else _ : Option _).bind _ = _
    rw [if_pos z]; rfl
  · rw [if_neg z]
    refine ev_go hd rfl rfl rfl ?_
    show (if y = 0 then none else _ : Option _).bind _ = _
    rw [if_neg z]; rfl
theorem ev_ineg (q : Nat) {x : Int} (hd : decode K.1 pc = .ok (.ineg, 1)) (hq : pc + 1 = q) : mm_ev K r pc L (vI x :: st) h = mm_ev K r q L (vI (w32 (-x)) :: st) h := by subst hq; exact ev_go hd rfl rfl rfl rfl
theorem ev_i2l (q : Nat) {x : Int} (hd : decode K.1 pc = .ok (.i2l, 1)) (hq : pc + 1 = q) : mm_ev K r pc L (vI x :: st) h = mm_ev K r q L (vL x :: st) h := by subst hq; exact ev_go hd rfl rfl rfl rfl
theorem ev_i2b (q : Nat) {x : Int} (hd : decode K.1 pc = .ok (.i2b, 1)) (hq : pc + 1 = q) : mm_ev K r pc L (vI x :: st) h = mm_ev K r q L (vI (w8 x) :: st) h := by subst hq; exact ev_go hd rfl rfl rfl rfl
theorem ev_i2s (q : Nat) {x : Int} (hd : decode K.1 pc = .ok (.i2s, 1)) (hq : pc + 1 = q) : mm_ev K r pc L (vI x :: st) h = mm_ev K r q L (vI (w16 x) :: st) h := by subst hq; exact ev_go hd rfl rfl rfl rfl
theorem ev_l2i (q : Nat) {x : Int} (hd : decode K.1 pc = .ok (.l2i, 1)) (hq : pc + 1 = q) : mm_ev K r pc L (vL x :: st) h = mm_ev K r q L (vI (w32 x) :: st) h := by subst hq; exact ev_go hd rfl rfl rfl rfl
theorem ev_lshl (q : Nat) {x y : Int} (hd : decode K.1 pc = .ok (.lshl, 1)) (hq : pc + 1 = q) : mm_ev K r pc L (vI y :: vL x :: st) h = mm_ev K r q L (vL (lShl x y) :: st) h := by subst hq; exact ev_go hd rfl rfl rfl rfl
theorem ev_dup (q : Nat) {v : mm_V} (hd : decode K.1 pc = .ok (.dup, 1)) (hv : mm_cat1 v = true) (hq : pc + 1 = q) : mm_ev K r pc L (v :: st) h = mm_ev K r q L (v :: v :: st) h := by
  subst hq
  refine ev_go hd rfl rfl rfl ?_
  show (if mm_cat1 v = true then _ else none) = _
  rw [if_pos hv]
theorem ev_pop (q : Nat) {v : mm_V} (hd : decode K.1 pc = .ok (.pop, 1)) (hv : mm_cat1 v = true) (hq : pc + 1 = q) : mm_ev K r pc L (v :: st) h = mm_ev K r q L st h := by
  subst hq
  refine ev_go hd rfl rfl rfl ?_
  show (if mm_cat1 v = true then _ else none) = _
  rw [if_pos hv]
theorem ev_dup2 (q : Nat) {v w : mm_V} (hd : decode K.1 pc = .ok (.dup2, 1)) (hv : (mm_cat1 v && mm_cat1 w) = true) (hq : pc + 1 = q) : mm_ev K r pc L (v :: w :: st) h = mm_ev K r q L (v :: w :: v :: w :: st) h := by
  subst hq
  refine ev_go hd rfl rfl rfl ?_
  show (if (mm_cat1 v && mm_cat1 w) = true then _ else none) = _
  rw [if_pos hv]
theorem ev_goto (q : Nat) {off : Int} (hd : decode K.1 pc = .ok (.goto off, 3)) (hq : (pc : Int) + off = (q : Int)) : mm_ev K r pc L st h = mm_ev K r q L st h := by
  refine ev_go hd rfl rfl rfl ?_
  show mm_jmp _ _ _ _ _ = _
  unfold mm_jmp
  rw [if_pos (by omega), show ((pc : Int) + off).toNat = q from by omega]
theorem ev_if_eq (t q : Nat) {off : Int} {x : Int} (hd : decode K.1 pc = .ok (.ifCond .eq off, 3)) (ht : (pc : Int) + off = (t : Int)) (hq : pc + 3 = q) : mm_ev K r pc L (vI x :: st) h = if x = 0 then mm_ev K r t L st h else mm_ev K r q L st h := by
  subst hq
  by_cases z : x = 0
  · rw [if_pos z]
    refine ev_go hd rfl rfl rfl ?_
    show (if 0 ≤ (pc : Int) + off then (if decide (x = 0) = true then _ else _) else none) = _
    rw [if_pos (by omega), if_pos (decide_eq_true z), show ((pc : Int) + off).toNat = t from by omega]
  · rw [if_neg z]
    refine ev_go hd rfl rfl rfl ?_
    show (if 0 ≤ (pc : Int) + off then (if decide (x = 0) = true then _ else _) else none) = _
    rw [if_pos (by omega), if_neg (fun w => z (of_decide_eq_true w))]
theorem ev_if_ne (t q : Nat) {off : Int} {x : Int} (hd : decode K.1 pc = .ok (.ifCond .ne off, 3)) (ht : (pc : Int) + off = (t : Int)) (hq : pc + 3 = q) : mm_ev K r pc L (vI x :: st) h = if ¬ x = 0 then mm_ev K r t L st h else mm_ev K r q L st h := by
  subst hq
  by_cases z : ¬ x = 0
  · rw [if_pos z]
    refine ev_go hd rfl rfl rfl ?_
    show (if 0 ≤ (pc : Int) + off then (if decide (¬ x = 0) = true then _ else _) else none) = _
    rw [if_pos (by omega), if_pos (decide_eq_true z), show ((pc : Int) + off).toNat = t from by omega]
  · rw [if_neg z]
    refine ev_go hd rfl rfl rfl ?_
    show (if 0 ≤ (pc : Int) + off then (if decide (¬ x = 0) = true then _ else _) else none) = _
    rw [if_pos (by omega), if_neg (fun w => z (of_decide_eq_true w))]
theorem ev_if_lt (t q : Nat) {off : Int} {x : Int} (hd : decode K.1 pc = .ok (.ifCond .lt off, 3)) (ht : (pc : Int) + off = (t : Int)) (hq : pc + 3 = q) : mm_ev K r pc L (vI x :: st) h = if x < 0 then mm_ev K r t L st h else mm_ev K r q L st h := by
  subst hq
  by_cases z : x < 0
  · rw [if_pos z]
    refine ev_go hd rfl rfl rfl ?_
    show (if 0 ≤ (pc : Int) + off then (if decide (x < 0) = true then _ else _) else none) = _
    rw [if_pos (by omega), if_pos (decide_eq_true z), show ((pc : Int) + off).toNat = t from by omega]
  · rw [if_neg z]
    refine ev_go hd rfl rfl rfl ?_
    show (if 0 ≤ (pc : Int) + off then (if decide (x < 0) = true then _ else _) else none) = _
    rw [if_pos (by omega), if_neg (fun w => z (of_decide_eq_true w))]
theorem ev_if_ge (t q : Nat) {off : Int} {x : Int} (hd : decode K.1 pc = .ok (.ifCond .ge off, 3)) (ht : (pc : Int) + off = (t : Int)) (hq : pc + 3 = q) : mm_ev K r pc L (vI x :: st) h = if 0 ≤ x then mm_ev K r t L st h else mm_ev K r q L st h := by
  subst hq
  by_cases z : 0 ≤ x
  · rw [if_pos z]
    refine ev_go hd rfl rfl rfl ?_
    show (if 0 ≤ (pc : Int) + off then (if decide (0 ≤ x) = true then _ else _) else none) = _
    rw [if_pos (by omega), if_pos (decide_eq_true z), show ((pc : Int) + off).toNat = t from by omega]
  · rw [if_neg z]
    refine ev_go hd rfl rfl rfl ?_
    show (if 0 ≤ (pc : Int) + off then (if decide (0 ≤ x) = true then _ else _) else none) = _
    rw [if_pos (by omega), if_neg (fun w => z (of_decide_eq_true w))]
theorem ev_if_gt (t q : Nat) {off : Int} {x : Int} (hd : decode K.1 pc = .ok (.ifCond .gt off, 3)) (ht : (pc : Int) + off = (t : Int)) (hq : pc + 3 = q) : mm_ev K r pc L (vI x :: st) h = if 0 < x then mm_ev K r t L st h else mm_ev K r q L st h := by
  subst hq
  by_cases z : 0 < x
  · rw [if_pos z]
    refine ev_go hd rfl rfl rfl ?_
    show (if 0 ≤ (pc : Int) + off then (if decide (0 < x) = true then _ else _) else none) = _
    rw [if_pos (by omega), if_pos (decide_eq_true z), show ((pc : Int) + off).toNat = t from by omega]
  · rw [if_neg z]
    refine ev_go hd rfl rfl rfl ?_
    show (if 0 ≤ (pc : Int) + off then (if decide (0 < x) = true then _ else _) else none) = _
    rw [if_pos (by omega), if_neg (fun w => z (of_decide_eq_true w))]
theorem ev_if_le (t q : Nat) {off : Int} {x : Int} (hd : decode K.1 pc = .ok (.ifCond .le off, 3)) (ht : (pc : Int) + off = (t : Int)) (hq : pc + 3 = q) : mm_ev K r pc L (vI x :: st) h = if x ≤ 0 then mm_ev K r t L st h else mm_ev K r q L st h := by
  subst hq
  by_cases z : x ≤ 0
  · rw [if_pos z]
    refine ev_go hd rfl rfl rfl ?_
    show (if 0 ≤ (pc : Int) + off then (if decide (x ≤ 0) = true then _ else _) else none) = _
    rw [if_pos (by omega), if_pos (decide_eq_true z), show ((pc : Int) + off).toNat = t from by omega]
  · rw [if_neg z]
    refine ev_go hd rfl rfl rfl ?_
    show (if 0 ≤ (pc : Int) + off then (if decide (x ≤ 0) = true then _ else _) else none) = _
    rw [if_pos (by omega), if_neg (fun w => z (of_decide_eq_true w))]
theorem ev_ic_eq (t q : Nat) {off : Int} {x y : Int} (hd : decode K.1 pc = .ok (.if_icmp .eq off, 3)) (ht : (pc : Int) + off = (t : Int)) (hq : pc + 3 = q) : mm_ev K r pc L (vI y :: vI x :: st) h = if x = y then mm_ev K r t L st h else mm_ev K r q L st h := by
  subst hq
  by_cases z : x = y
  · rw [if_pos z]
    refine ev_go hd rfl rfl rfl ?_
    show (if 0 ≤ (pc : Int) + off then (if decide (x = y) = true then _ else _) else none) = _
    rw [if_pos (by omega), if_pos (decide_eq_true z), show ((pc : Int) + off).toNat = t from by omega]
  · rw [if_neg z]
    refine ev_go hd rfl rfl rfl ?_
    show (if 0 ≤ (pc : Int) + off then (if decide (x = y) = true then _ else _) else none) = _
    rw [if_pos (by omega), if_neg (fun w => z (of_decide_eq_true w))]
theorem ev_ic_ne (t q : Nat) {off : Int} {x y : Int} (hd : decode K.1 pc = .ok (.if_icmp .ne off, 3)) (ht : (pc : Int) + off = (t : Int)) (hq : pc + 3 = q) : mm_ev K r pc L (vI y :: vI x :: st) h = if ¬ x = y then mm_ev K r t L st h else mm_ev K r q L st h := by
  subst hq
  by_cases z : ¬ x = y
  · rw [if_pos z]
    refine ev_go hd rfl rfl rfl ?_
    show (if 0 ≤ (pc : Int) + off then (if decide (¬ x = y) = true then _ else _) else none) = _
    rw [if_pos (by omega), if_pos (decide_eq_true z), show ((pc : Int) + off).toNat = t from by omega]
  · rw [if_neg z]
    refine ev_go hd rfl rfl rfl ?_
    show (if 0 ≤ (pc : Int) + off then (if decide (¬ x = y) = true then _ else _) else none) = _
    rw [if_pos (by omega), if_neg (fun w => z (of_decide_eq_true w))]
theorem ev_ic_lt (t q : Nat) {off : Int} {x y : Int} (hd : decode K.1 pc = .ok (.if_icmp .lt off, 3)) (ht : (pc : Int) + off = (t : Int)) (hq : pc + 3 = q) : mm_ev K r pc L (vI y :: vI x :: st) h = if x < y then mm_ev K r t L st h else mm_ev K r q L st h := by
  subst hq
  by_cases z : x < y
  · rw [if_pos z]
    refine ev_go hd rfl rfl rfl ?_
    show (if 0 ≤ (pc : Int) + off then (if decide (x < y) = true then _ else _) else none) = _
    rw [if_pos (by omega), if_pos (decide_eq_true z), show ((pc : Int) + off).toNat = t from by omega]
  · rw [if_neg z]
    refine ev_go hd rfl rfl rfl ?_
    show (if 0 ≤ (pc : Int) + off then (if decide (x < y) = true then _ else _) else none) = _
    rw [if_pos (by omega), if_neg (fun w => z (of_decide_eq_true w))]
theorem ev_ic_ge (t q : Nat) {off : Int} {x y : Int} (hd : decode K.1 pc = .ok (.if_icmp .ge off, 3)) (ht : (pc : Int) + off = (t : Int)) (hq : pc + 3 = q) : mm_ev K r pc L (vI y :: vI x :: st) h = if y ≤ x then mm_ev K r t L st h else mm_ev K r q L st h := by
  subst hq
  by_cases z : y ≤ x
  · rw [if_pos z]
    refine ev_go hd rfl rfl rfl ?_
    show (if 0 ≤ (pc : Int) + off then (if decide (y ≤ x) = true then _ else _) else none) = _
    rw [if_pos (by omega), if_pos (decide_eq_true z), show ((pc : Int) + off).toNat = t from by omega]
  · rw [if_neg z]
    refine ev_go hd rfl rfl rfl ?_
    show (if 0 ≤ (pc : Int) + off then (if decide (y ≤ x) = true then _ else _) else none) = _
    rw [if_pos (by omega), if_neg (fun w => z (of_decide_eq_true w))]
theorem ev_ic_gt (t q : Nat) {off : Int} {x y : Int} (hd : decode K.1 pc = .ok (.if_icmp .gt off, 3)) (ht : (pc : Int) + off = (t : Int)) (hq : pc + 3 = q) : mm_ev K r pc L (vI y :: vI x :: st) h = if y < x then mm_ev K r t L st h else mm_ev K r q L st h := by
  subst hq
  by_cases z : y < x
  · rw [if_pos z]
    refine ev_go hd rfl rfl rfl ?_
    show (if 0 ≤ (pc : Int) + off then (if decide (y < x) = true then _ else _) else none) = _
    rw [if_pos (by omega), if_pos (decide_eq_true z), show ((pc : Int) + off).toNat = t from by omega]
  · rw [if_neg z]
    refine ev_go hd rfl rfl rfl ?_
    show (if 0 ≤ (pc : Int) + off then (if decide (y < x) = true then _ else _) else none) = _
    rw [if_pos (by omega), if_neg (fun w => z (of_decide_eq_true w))]
theorem ev_ic_le (t q : Nat) {off : Int} {x y : Int} (hd : decode K.1 pc = .ok (.if_icmp .le off, 3)) (ht : (pc : Int) + off = (t : Int)) (hq : pc + 3 = q) : mm_ev K r pc L (vI y :: vI x :: st) h = if x ≤ y then mm_ev K r t L st h else mm_ev K r q L st h := by
  subst hq
  by_cases z : x ≤ y
  · rw [if_pos z]
    refine ev_go hd rfl rfl rfl ?_
    show (if 0 ≤ (pc : Int) + off then (if decide (x ≤ y) = true then _ else _) else none) = _
    rw [if_pos (by omega), if_pos (decide_eq_true z), show ((pc : Int) + off).toNat = t from by omega]
  · rw [if_neg z]
    refine ev_go hd rfl rfl rfl ?_
    show (if 0 ≤ (pc : Int) + off then (if decide (x ≤ y) = true then _ else _) else none) = _
    rw [if_pos (by omega), if_neg (fun w => z (of_decide_eq_true w))]
theorem ev_tab (t : Nat) {d lo hi off : Int} {offs : Array Int} {len : Nat} {x : Int} (hd : decode K.1 pc = .ok (.tableswitch d lo hi offs, len)) (h1 : ¬ (x < lo ∨ hi < x)) (ho : offs[(x - lo).toNat]? = some off) (ht : (pc : Int) + off = (t : Int)) : mm_ev K r pc L (vI x :: st) h = mm_ev K r t L st h := by
  refine ev_go hd rfl rfl rfl ?_
  show (if x < lo ∨ hi < x then mm_jmp pc d L st h else (match offs[(x - lo).toNat]? with | some off => mm_jmp pc off L st h | none => none)) = _
  rw [if_neg h1, ho]
  show mm_jmp _ _ _ _ _ = _
  unfold mm_jmp
  rw [if_pos (by omega), show ((pc : Int) + off).toNat = t from by omega]
theorem ev_tabD (t : Nat) {d lo hi : Int} {offs : Array Int} {len : Nat} {x : Int} (hd : decode K.1 pc = .ok (.tableswitch d lo hi offs, len)) (h1 : x < lo ∨ hi < x) (ht : (pc : Int) + d = (t : Int)) : mm_ev K r pc L (vI x :: st) h = mm_ev K r t L st h := by
  refine ev_go hd rfl rfl rfl ?_
  show (if x < lo ∨ hi < x then mm_jmp pc d L st h else _) = _
  rw [if_pos h1]
  unfold mm_jmp
  rw [if_pos (by omega), show ((pc : Int) + d).toNat = t from by omega]
/-- a table switch, one value asked after the other -/
theorem ev_tabC {d lo hi : Int} {offs : Array Int} {len : Nat} {x : Int} {k : Int} {A B : mm_O} (_ : decode K.1 pc = .ok (.tableswitch d lo hi offs, len)) (h1 : x = k → mm_ev K r pc L (vI x :: st) h = A) (h2 : ¬ x = k → mm_ev K r pc L (vI x :: st) h = B) : mm_ev K r pc L (vI x :: st) h = if x = k then A else B := by
  by_cases z : x = k
  · rw [if_pos z]; exact h1 z
  · rw [if_neg z]; exact h2 z
theorem ev_look {d : Int} {ps : Array (Int × Int)} {len : Nat} {x : Int} (t : Nat) (hd : decode K.1 pc = .ok (.lookupswitch d ps, len)) (hp : (ps.toList.zip (ps.toList.drop 1)).all (fun (a, next) => a.1 < next.1) = true) (ht : (pc : Int) + Op.lookupswitch.offset ps.toList d x = (t : Int)) : mm_ev K r pc L (vI x :: st) h = mm_ev K r t L st h := by
  refine ev_go hd rfl rfl rfl ?_
  show (if (ps.toList.zip (ps.toList.drop 1)).all (fun (a, next) => a.1 < next.1) = true then mm_jmp pc (Op.lookupswitch.offset ps.toList d x) L st h else none) = _
  rw [if_pos hp]
  unfold mm_jmp
  rw [if_pos (by omega), show ((pc : Int) + Op.lookupswitch.offset ps.toList d x).toNat = t from by omega]
theorem ev_lookC {x k : Int} {A B : mm_O} (h1 : x = k → mm_ev K r pc L (vI x :: st) h = A) (h2 : ¬ x = k → mm_ev K r pc L (vI x :: st) h = B) : mm_ev K r pc L (vI x :: st) h = if x = k then A else B := by
  by_cases z : x = k
  · rw [if_pos z]; exact h1 z
  · rw [if_neg z]; exact h2 z
theorem mm_lda_gen {k c q : Nat} {n i : Int} (hk : mm_ak c = k) (h14 : 1 ≤ k ∧ k ≤ 4) (hn : mm_an c = n) : mm_lda q k L (vI i :: vR c :: st) h = if 0 ≤ i ∧ i < n then some (q, L, (if k = 2 then vL (h c i) else vI (h c i)) :: st, h) else none := by
  show (if 0 ≤ i ∧ i < mm_al c h then _ else none) = _
  have hal : mm_al c h = n := by unfold mm_al; rw [if_neg (by omega), hn]
  rw [hal]
  by_cases z : 0 ≤ i ∧ i < n
  · rw [if_pos z, if_pos z, if_neg (fun w => by omega), if_pos (Or.inl hk)]
  · rw [if_neg z, if_neg z]
theorem ev_lda {ins : Instr} {k c q : Nat} {n i : Int} (v : mm_V) (hd : decode K.1 pc = .ok (ins, 1)) (hi : mm_inv ins K.2.2.2.1 (vI i :: vR c :: st) = none) (hr : mm_ret ins K.2.2.1 (vI i :: vR c :: st) = none) (hl : mm_lok ins 1 = true) (hs : mm_s K pc ins L (vI i :: vR c :: st) h = mm_lda q k L (vI i :: vR c :: st) h) (hk : mm_ak c = k) (h14 : 1 ≤ k ∧ k ≤ 4) (hn : mm_an c = n) (hv : (if k = 2 then vL (h c i) else vI (h c i)) = v) : mm_ev K r pc L (vI i :: vR c :: st) h = if 0 ≤ i ∧ i < n then mm_ev K r q L (v :: st) h else none := by
  subst hv
  by_cases z : 0 ≤ i ∧ i < n
  · rw [if_pos z]
    refine ev_go hd hl hr hi ?_
    rw [hs, mm_lda_gen hk h14 hn, if_pos z]
  · rw [if_neg z]
    refine ev_stuck hd hr hi ?_
    rw [hs, mm_lda_gen hk h14 hn, if_neg z]
theorem ev_iald (q : Nat) {c : Nat} (n : Int) {i : Int} (hd : decode K.1 pc = .ok (.iaload, 1)) (hk : mm_ak c = 1) (hn : mm_an c = n) (hq : pc + 1 = q) : mm_ev K r pc L (vI i :: vR c :: st) h = if 0 ≤ i ∧ i < n then mm_ev K r q L (vI (h c i) :: st) h else none := by
  subst hq; exact ev_lda (vI (h c i)) hd rfl rfl rfl rfl hk ⟨by decide, by decide⟩ hn rfl
theorem ev_lald (q : Nat) {c : Nat} (n : Int) {i : Int} (hd : decode K.1 pc = .ok (.laload, 1)) (hk : mm_ak c = 2) (hn : mm_an c = n) (hq : pc + 1 = q) : mm_ev K r pc L (vI i :: vR c :: st) h = if 0 ≤ i ∧ i < n then mm_ev K r q L (vL (h c i) :: st) h else none := by
  subst hq; exact ev_lda (vL (h c i)) hd rfl rfl rfl rfl hk ⟨by decide, by decide⟩ hn rfl
theorem ev_bald (q : Nat) {c : Nat} (n : Int) {i : Int} (hd : decode K.1 pc = .ok (.baload, 1)) (hk : mm_ak c = 3) (hn : mm_an c = n) (hq : pc + 1 = q) : mm_ev K r pc L (vI i :: vR c :: st) h = if 0 ≤ i ∧ i < n then mm_ev K r q L (vI (h c i) :: st) h else none := by
  subst hq; exact ev_lda (vI (h c i)) hd rfl rfl rfl rfl hk ⟨by decide, by decide⟩ hn rfl
theorem ev_sald (q : Nat) {c : Nat} (n : Int) {i : Int} (hd : decode K.1 pc = .ok (.saload, 1)) (hk : mm_ak c = 4) (hn : mm_an c = n) (hq : pc + 1 = q) : mm_ev K r pc L (vI i :: vR c :: st) h = if 0 ≤ i ∧ i < n then mm_ev K r q L (vI (h c i) :: st) h else none := by
  subst hq; exact ev_lda (vI (h c i)) hd rfl rfl rfl rfl hk ⟨by decide, by decide⟩ hn rfl
theorem ev_ialdC (q : Nat) {c : Nat} (n : Int) {i : Int} (hd : decode K.1 pc = .ok (.iaload, 1)) (hk : mm_ak c = 5) (hn : mm_an c = n) (hq : pc + 1 = q) : mm_ev K r pc L (vI i :: vR c :: st) h = if 0 ≤ i ∧ i < n then mm_ev K r q L (vI (mm_ct c i) :: st) h else none := by
  subst hq
  have hal : mm_al c h = n := by unfold mm_al; rw [if_neg (by rw [hk]; decide), hn]
  have hs : mm_s K pc .iaload L (vI i :: vR c :: st) h = if 0 ≤ i ∧ i < n then some (pc + 1, L, vI (mm_ct c i) :: st, h) else none := by
    show (if 0 ≤ i ∧ i < mm_al c h then _ else none) = _
    rw [hal, if_pos (show (1 : Nat) = 1 ∧ mm_ak c = 5 from ⟨rfl, hk⟩)]
  by_cases z : 0 ≤ i ∧ i < n
  · rw [if_pos z] at hs ⊢; exact ev_go hd rfl rfl rfl hs
  · rw [if_neg z] at hs ⊢; exact ev_stuck hd rfl rfl hs
theorem ev_ialdS (q : Nat) {i : Int} (hd : decode K.1 pc = .ok (.iaload, 1)) (hq : pc + 1 = q) : mm_ev K r pc L (vI i :: vR 110 :: st) h = if 0 ≤ i ∧ i < h 110 (-1) then mm_ev K r q L (vI (h 110 i) :: st) h else none := by
  subst hq
  have hk : mm_ak 110 = 6 := rfl
  have hal : mm_al 110 h = h 110 (-1) := by unfold mm_al; rw [if_pos hk]
  have hs : mm_s K pc .iaload L (vI i :: vR 110 :: st) h = if 0 ≤ i ∧ i < h 110 (-1) then some (pc + 1, L, vI (h 110 i) :: st, h) else none := by
    show (if 0 ≤ i ∧ i < mm_al 110 h then _ else none) = _
    rw [hal, if_neg (c := (1 : Nat) = 1 ∧ mm_ak 110 = 5) (fun w => absurd w.2 (by rw [hk]; decide)), if_pos (c := mm_ak 110 = 1 ∨ ((1 : Nat) = 1 ∧ mm_ak 110 = 6)) (Or.inr ⟨rfl, hk⟩)]; rfl
  by_cases z : 0 ≤ i ∧ i < h 110 (-1)
  · rw [if_pos z] at hs ⊢; exact ev_go hd rfl rfl rfl hs
  · rw [if_neg z] at hs ⊢; exact ev_stuck hd rfl rfl hs
theorem ev_iast (q : Nat) {c : Nat} (n : Int) {i v : Int} (hd : decode K.1 pc = .ok (.iastore, 1)) (hk : mm_ak c = 1) (hn : mm_an c = n) (hq : pc + 1 = q) : mm_ev K r pc L (vI v :: vI i :: vR c :: st) h = if 0 ≤ i ∧ i < n then mm_ev K r q L st (mUp h c i (v)) else none := by
  subst hq
  have hs : mm_s K pc .iastore L (vI v :: vI i :: vR c :: st) h = if 0 ≤ i ∧ i < n then some (pc + 1, L, st, mUp h c i (v)) else none := by
    show (if 0 ≤ i ∧ i < mm_an c then (if mm_ak c = 1 ∧ (1 = 1 ∨ 1 = 3 ∨ 1 = 4) then _ else none) else none) = _
    rw [hn, if_pos (show mm_ak c = 1 ∧ (1 = 1 ∨ 1 = 3 ∨ 1 = 4) from ⟨hk, by decide⟩)]; rfl
  by_cases z : 0 ≤ i ∧ i < n
  · rw [if_pos z] at hs ⊢; exact ev_go hd rfl rfl rfl hs
  · rw [if_neg z] at hs ⊢; exact ev_stuck hd rfl rfl hs
theorem ev_bast (q : Nat) {c : Nat} (n : Int) {i v : Int} (hd : decode K.1 pc = .ok (.bastore, 1)) (hk : mm_ak c = 3) (hn : mm_an c = n) (hq : pc + 1 = q) : mm_ev K r pc L (vI v :: vI i :: vR c :: st) h = if 0 ≤ i ∧ i < n then mm_ev K r q L st (mUp h c i (w8 v)) else none := by
  subst hq
  have hs : mm_s K pc .bastore L (vI v :: vI i :: vR c :: st) h = if 0 ≤ i ∧ i < n then some (pc + 1, L, st, mUp h c i (w8 v)) else none := by
    show (if 0 ≤ i ∧ i < mm_an c then (if mm_ak c = 3 ∧ (3 = 1 ∨ 3 = 3 ∨ 3 = 4) then _ else none) else none) = _
    rw [hn, if_pos (show mm_ak c = 3 ∧ (3 = 1 ∨ 3 = 3 ∨ 3 = 4) from ⟨hk, by decide⟩)]; rfl
  by_cases z : 0 ≤ i ∧ i < n
  · rw [if_pos z] at hs ⊢; exact ev_go hd rfl rfl rfl hs
  · rw [if_neg z] at hs ⊢; exact ev_stuck hd rfl rfl hs
theorem ev_sast (q : Nat) {c : Nat} (n : Int) {i v : Int} (hd : decode K.1 pc = .ok (.sastore, 1)) (hk : mm_ak c = 4) (hn : mm_an c = n) (hq : pc + 1 = q) : mm_ev K r pc L (vI v :: vI i :: vR c :: st) h = if 0 ≤ i ∧ i < n then mm_ev K r q L st (mUp h c i (w16 v)) else none := by
  subst hq
  have hs : mm_s K pc .sastore L (vI v :: vI i :: vR c :: st) h = if 0 ≤ i ∧ i < n then some (pc + 1, L, st, mUp h c i (w16 v)) else none := by
    show (if 0 ≤ i ∧ i < mm_an c then (if mm_ak c = 4 ∧ (4 = 1 ∨ 4 = 3 ∨ 4 = 4) then _ else none) else none) = _
    rw [hn, if_pos (show mm_ak c = 4 ∧ (4 = 1 ∨ 4 = 3 ∨ 4 = 4) from ⟨hk, by decide⟩)]; rfl
  by_cases z : 0 ≤ i ∧ i < n
  · rw [if_pos z] at hs ⊢; exact ev_go hd rfl rfl rfl hs
  · rw [if_neg z] at hs ⊢; exact ev_stuck hd rfl rfl hs
theorem ev_last (q : Nat) {c : Nat} (n : Int) {i v : Int} (hd : decode K.1 pc = .ok (.lastore, 1)) (hk : mm_ak c = 2) (hn : mm_an c = n) (hq : pc + 1 = q) : mm_ev K r pc L (vL v :: vI i :: vR c :: st) h = if 0 ≤ i ∧ i < n then mm_ev K r q L st (mUp h c i (v)) else none := by
  subst hq
  have hs : mm_s K pc .lastore L (vL v :: vI i :: vR c :: st) h = if 0 ≤ i ∧ i < n then some (pc + 1, L, st, mUp h c i (v)) else none := by
    show (if 0 ≤ i ∧ i < mm_an c then (if mm_ak c = 2 ∧ 2 = 2 then _ else none) else none) = _
    rw [hn, if_pos (show mm_ak c = 2 ∧ 2 = 2 from ⟨hk, rfl⟩)]
  by_cases z : 0 ≤ i ∧ i < n
  · rw [if_pos z] at hs ⊢; exact ev_go hd rfl rfl rfl hs
  · rw [if_neg z] at hs ⊢; exact ev_stuck hd rfl rfl hs
theorem ev_alen (q : Nat) {c : Nat} (n : Int) (hd : decode K.1 pc = .ok (.arraylength, 1)) (hk : 1 ≤ mm_ak c ∧ mm_ak c ≤ 4) (hn : mm_an c = n) (hq : pc + 1 = q) : mm_ev K r pc L (vR c :: st) h = mm_ev K r q L (vI n :: st) h := by
  subst hq
  refine ev_go hd rfl rfl rfl ?_
  show (if (1 ≤ mm_ak c ∧ mm_ak c ≤ 4) ∨ mm_ak c = 6 then some (pc + 1, L, vI (mm_al c h) :: st, h) else none) = _
  rw [if_pos (Or.inl hk)]
  unfold mm_al
  rw [if_neg (by omega), hn]
theorem ev_alenS (q : Nat) (hd : decode K.1 pc = .ok (.arraylength, 1)) (hq : pc + 1 = q) : mm_ev K r pc L (vR 110 :: st) h = mm_ev K r q L (vI (h 110 (-1)) :: st) h := by
  subst hq
  refine ev_go hd rfl rfl rfl ?_
  show (if (1 ≤ mm_ak 110 ∧ mm_ak 110 ≤ 4) ∨ mm_ak 110 = 6 then some (pc + 1, L, vI (mm_al 110 h) :: st, h) else none) = _
  rw [if_pos (c := (1 ≤ mm_ak 110 ∧ mm_ak 110 ≤ 4) ∨ mm_ak 110 = 6) (Or.inr rfl)]
  unfold mm_al
  rw [if_pos (c := mm_ak 110 = 6) rfl]
theorem ev_getI (q : Nat) (z : Int) {i ci k c : Nat} (hd : decode K.1 pc = .ok (.getfield i, 3)) (hf : mm_fl K.2.2.2.1 i = some (ci, k)) (hc : mm_oc c = some ci) (h0 : mm_ak c = 0) (hk : mm_fk ci k ≤ 1) (hz : (k : Int) = z) (hq : pc + 3 = q) : mm_ev K r pc L (vR c :: st) h = mm_ev K r q L (vI (h c z) :: st) h := by
  subst hq; subst hz
  refine ev_go hd rfl rfl rfl ?_
  show mm_gf _ (mm_fl K.2.2.2.1 i) _ _ _ = _
  rw [hf]
  show (if mm_oc c = some ci ∧ mm_ak c = 0 then _ else none) = _
  rw [if_pos ⟨hc, h0⟩, if_pos hk]
theorem ev_getF (q d : Nat) {i ci k c : Nat} (hd : decode K.1 pc = .ok (.getfield i, 3)) (hf : mm_fl K.2.2.2.1 i = some (ci, k)) (hc : mm_oc c = some ci) (h0 : mm_ak c = 0) (hk : mm_fk ci k = 2) (hr : mm_rf c k = d) (hq : pc + 3 = q) : mm_ev K r pc L (vR c :: st) h = mm_ev K r q L (vR d :: st) h := by
  subst hq
  refine ev_go hd rfl rfl rfl ?_
  show mm_gf _ (mm_fl K.2.2.2.1 i) _ _ _ = _
  rw [hf]
  show (if mm_oc c = some ci ∧ mm_ak c = 0 then _ else none) = _
  rw [if_pos ⟨hc, h0⟩, if_neg (by omega), if_pos hk, hr]
theorem ev_getR (q : Nat) (z : Int) {i ci k c : Nat} (hd : decode K.1 pc = .ok (.getfield i, 3)) (hf : mm_fl K.2.2.2.1 i = some (ci, k)) (hc : mm_oc c = some ci) (h0 : mm_ak c = 0) (hk : mm_fk ci k = 3) (hz : (k : Int) = z) (hq : pc + 3 = q) : mm_ev K r pc L (vR c :: st) h = mm_ev K r q L (vR (h c z).toNat :: st) h := by
  subst hq; subst hz
  refine ev_go hd rfl rfl rfl ?_
  show mm_gf _ (mm_fl K.2.2.2.1 i) _ _ _ = _
  rw [hf]
  show (if mm_oc c = some ci ∧ mm_ak c = 0 then _ else none) = _
  rw [if_pos ⟨hc, h0⟩, if_neg (by omega), if_neg (by omega), if_pos hk]
theorem ev_putI (q : Nat) (z : Int) {i ci k c : Nat} {v : Int} (hd : decode K.1 pc = .ok (.putfield i, 3)) (hf : mm_fl K.2.2.2.1 i = some (ci, k)) (hc : mm_oc c = some ci) (h0 : mm_ak c = 0) (hk : mm_fk ci k = 0) (hz : (k : Int) = z) (hq : pc + 3 = q) : mm_ev K r pc L (vI v :: vR c :: st) h = mm_ev K r q L st (mUp h c z v) := by
  subst hq; subst hz
  refine ev_go hd rfl rfl rfl ?_
  show mm_pf _ (mm_fl K.2.2.2.1 i) _ _ _ = _
  rw [hf]
  show (if mm_oc c = some ci ∧ mm_ak c = 0 then _ else none) = _
  rw [if_pos ⟨hc, h0⟩, if_pos (Or.inl hk)]
theorem ev_putZ (q : Nat) (z : Int) {i ci k c : Nat} {v : Int} (hd : decode K.1 pc = .ok (.putfield i, 3)) (hf : mm_fl K.2.2.2.1 i = some (ci, k)) (hc : mm_oc c = some ci) (h0 : mm_ak c = 0) (hk : mm_fk ci k = 1) (hz : (k : Int) = z) (hq : pc + 3 = q) : mm_ev K r pc L (vI v :: vR c :: st) h = if v = 0 ∨ v = 1 then mm_ev K r q L st (mUp h c z v) else none := by
  subst hq; subst hz
  have hs : mm_s K pc (.putfield i) L (vI v :: vR c :: st) h = if v = 0 ∨ v = 1 then some (pc + 3, L, st, mUp h c k v) else none := by
    show mm_pf _ (mm_fl K.2.2.2.1 i) _ _ _ = _
    rw [hf]
    show (if mm_oc c = some ci ∧ mm_ak c = 0 then _ else none) = _
    rw [if_pos ⟨hc, h0⟩]
    by_cases z : v = 0 ∨ v = 1
    · rw [if_pos z, if_pos (Or.inr ⟨hk, z⟩)]
    · rw [if_neg z, if_neg (fun w => by rcases w with w | w
                                        · omega
                                        · exact z w.2)]
  by_cases z : v = 0 ∨ v = 1
  · rw [if_pos z] at hs ⊢; exact ev_go hd rfl rfl rfl hs
  · rw [if_neg z] at hs ⊢; exact ev_stuck hd rfl rfl hs
theorem ev_putR (q : Nat) (z : Int) {i ci k c d : Nat} (hd : decode K.1 pc = .ok (.putfield i, 3)) (hf : mm_fl K.2.2.2.1 i = some (ci, k)) (hc : mm_oc c = some ci) (h0 : mm_ak c = 0) (hk : mm_fk ci k = 3) (hz : (k : Int) = z) (hq : pc + 3 = q) : mm_ev K r pc L (vR d :: vR c :: st) h = if d < 1000 then mm_ev K r q L st (mUp h c z d) else none := by
  subst hq; subst hz
  have hs : mm_s K pc (.putfield i) L (vR d :: vR c :: st) h = if d < 1000 then some (pc + 3, L, st, mUp h c k d) else none := by
    show mm_pf _ (mm_fl K.2.2.2.1 i) _ _ _ = _
    rw [hf]
    show (if mm_oc c = some ci ∧ mm_ak c = 0 ∧ mm_fk ci k = 3 ∧ d < 1000 then _ else none) = _
    by_cases z : d < 1000
    · rw [if_pos z, if_pos ⟨hc, h0, hk, z⟩]
    · rw [if_neg z, if_neg (fun w => z w.2.2.2)]
  by_cases z : d < 1000
  · rw [if_pos z] at hs ⊢; exact ev_go hd rfl rfl rfl hs
  · rw [if_neg z] at hs ⊢; exact ev_stuck hd rfl rfl hs
theorem ev_gets (q d : Nat) {i : Nat} (hd : decode K.1 pc = .ok (.getstatic i, 3)) (hf : mm_st K.2.2.2.1 i = some d) (hq : pc + 3 = q) : mm_ev K r pc L st h = mm_ev K r q L (vR d :: st) h := by
  subst hq
  refine ev_go hd rfl rfl rfl ?_
  show (mm_st K.2.2.2.1 i).bind _ = _
  rw [hf]; rfl
theorem ev_nat {i k a b : Nat} {q : Nat} {L' : mm_L} {st' : List mm_V} {h' : mm_M} (hd : decode K.1 pc = .ok (.invokestatic i, 3)) (hm : mm_ml K.2.2.2.1 i = some (k, a, b)) (hk : k ≠ 1) (hs : mm_nat (pc + 3) k L st h = some (q, L', st', h')) : mm_ev K r pc L st h = mm_ev K r q L' st' h' := by
  refine ev_go hd rfl rfl ?_ ?_
  · show (match mm_ml K.2.2.2.1 i with | some (1, n, k) => if (st.take n).length = n then some (k, (st.take n).reverse, st.drop n) else none | _ => none) = _
    rw [hm]
    split
    · rename_i w; exact absurd (by cases w; rfl) hk
    · rfl
  · show (match mm_ml K.2.2.2.1 i with | some (k, _, _) => mm_nat (pc + 3) k L st h | none => none) = _
    rw [hm]; exact hs
theorem ev_max (q : Nat) {i a b : Nat} {x y : Int} (hd : decode K.1 pc = .ok (.invokestatic i, 3)) (hm : mm_ml K.2.2.2.1 i = some (2, a, b)) (hl : mm_cs st ≤ 8) (hq : pc + 3 = q) : mm_ev K r pc L (vI y :: vI x :: st) h = mm_ev K r q L (vI (if x < y then y else x) :: st) h := by
  subst hq; exact ev_nat hd hm (by decide) (by show (if mm_cs st ≤ 8 then _ else none) = _; rw [if_pos hl])
theorem ev_min (q : Nat) {i a b : Nat} {x y : Int} (hd : decode K.1 pc = .ok (.invokestatic i, 3)) (hm : mm_ml K.2.2.2.1 i = some (3, a, b)) (hl : mm_cs st ≤ 8) (hq : pc + 3 = q) : mm_ev K r pc L (vI y :: vI x :: st) h = mm_ev K r q L (vI (if y < x then y else x) :: st) h := by
  subst hq; exact ev_nat hd hm (by decide) (by show (if mm_cs st ≤ 8 then _ else none) = _; rw [if_pos hl])
theorem ev_abs (q : Nat) {i a b : Nat} {x : Int} (hd : decode K.1 pc = .ok (.invokestatic i, 3)) (hm : mm_ml K.2.2.2.1 i = some (4, a, b)) (hl : mm_cs st ≤ 8) (hq : pc + 3 = q) : mm_ev K r pc L (vI x :: st) h = mm_ev K r q L (vI (if 0 ≤ x then x else w32 (0 - x)) :: st) h := by
  subst hq; exact ev_nat hd hm (by decide) (by show (if mm_cs st ≤ 8 then _ else none) = _; rw [if_pos hl])
theorem ev_copy (q : Nat) {i a b c d : Nat} (u v : Int) {x y n : Int} (hd : decode K.1 pc = .ok (.invokestatic i, 3)) (hm : mm_ml K.2.2.2.1 i = some (5, a, b)) (hl : mm_cs st ≤ 8) (h1 : mm_ak d = 1 ∨ mm_ak d = 2) (h2 : mm_ak c = mm_ak d) (hu : mm_an c = u) (hv : mm_an d = v) (hq : pc + 3 = q) : mm_ev K r pc L (vI n :: vI y :: vR d :: vI x :: vR c :: st) h = if 0 ≤ x ∧ 0 ≤ y ∧ 0 ≤ n ∧ x + n ≤ u ∧ y + n ≤ v then mm_ev K r q L st (mCpy h c x d y n) else none := by
  subst hq; subst hu; subst hv
  have hs : mm_nat (pc + 3) 5 L (vI n :: vI y :: vR d :: vI x :: vR c :: st) h = if 0 ≤ x ∧ 0 ≤ y ∧ 0 ≤ n ∧ x + n ≤ mm_an c ∧ y + n ≤ mm_an d then some (pc + 3, L, st, mCpy h c x d y n) else none := by
    show (if mm_cs st ≤ 8 ∧ (mm_ak d = 1 ∨ mm_ak d = 2) ∧ mm_ak c = mm_ak d then _ else none) = _
    rw [if_pos ⟨hl, h1, h2⟩]
  by_cases z : 0 ≤ x ∧ 0 ≤ y ∧ 0 ≤ n ∧ x + n ≤ mm_an c ∧ y + n ≤ mm_an d
  · rw [if_pos z] at hs ⊢; exact ev_nat hd hm (by decide) hs
  · rw [if_neg z] at hs ⊢
    refine ev_stuck hd rfl ?_ ?_
    · show (match mm_ml K.2.2.2.1 i with | some (1, n, k) => _ | _ => none) = _
      rw [hm]; rfl
    · show (match mm_ml K.2.2.2.1 i with | some (k, _, _) => mm_nat (pc + 3) k L _ h | none => none) = _
      rw [hm]; exact hs
theorem ev_tabK (t : Nat) {d lo hi off k : Int} {offs : Array Int} {len : Nat} {x : Int} (hd : decode K.1 pc = .ok (.tableswitch d lo hi offs, len)) (z : x = k) (h1 : ¬ (k < lo ∨ hi < k)) (ho : offs[(k - lo).toNat]? = some off) (ht : (pc : Int) + off = (t : Int)) : mm_ev K r pc L (vI x :: st) h = mm_ev K r t L st h := by subst z; exact ev_tab t hd h1 ho ht
theorem ev_lookK {d o k : Int} {ps : Array (Int × Int)} {len : Nat} {x : Int} (t : Nat) (hd : decode K.1 pc = .ok (.lookupswitch d ps, len)) (hp : (ps.toList.zip (ps.toList.drop 1)).all (fun (a, next) => a.1 < next.1) = true) (z : x = k) (ho : Op.lookupswitch.offset ps.toList d k = o) (ht : (pc : Int) + o = (t : Int)) : mm_ev K r pc L (vI x :: st) h = mm_ev K r t L st h := by subst z; exact ev_look t hd hp (by rw [ho]; exact ht)
/-- a call -/
theorem ev_call {ins : Instr} {k : Nat} (K' : mm_K) (a rest : List mm_V) (q : Nat) (hd : decode K.1 pc = .ok (ins, 3)) (hl : mm_lok ins 3 = true) (hr : mm_ret ins K.2.2.1 st = none) (hi : mm_inv ins K.2.2.2.1 st = some (k, a, rest)) (hk : mm_k k = K') (h4 : mm_cs rest ≤ 8) (hf : (mm_flat a).length ≤ K'.2.1) (hq : pc + 3 = q) : mm_ev K r pc L st h = if mm_rk K' a h < r then (mm_call K' a h).bind (fun w => mm_ev K r q L (w.1 ++ rest) w.2) else none := by
  subst hq; subst hk
  rw [mm_ev_step]
  unfold mm_step
  rw [hd]
  dsimp only
  rw [if_pos hl, hr]
  dsimp only
  rw [hi]
  dsimp only
  by_cases z : mm_rk (mm_k k) a h < r
  · rw [if_pos z, if_pos ⟨z, h4, hf⟩]; rfl
  · rw [if_neg z, if_neg (fun w => z w.1)]
theorem mm_inv_v {c i n k o : Nat} {st rest : List mm_V} (hm : mm_ml c i = some (0, n, k)) {K' : mm_K} (hk : mm_k k = K') (hd : st.drop n = vR o :: rest) (ho : mm_oc o = some K'.2.2.2.1) (h0 : mm_ak o = 0) (hn : (st.take n).length = n) {a : List mm_V} (ha : vR o :: (st.take n).reverse = a) : mm_inv (.invokevirtual i) c st = some (k, a, rest) := by
  subst hk; subst ha
  show (match mm_ml c i with
    | some (0, n, k) => (match st.drop n with | .inr (.inr o) :: rest => if mm_oc o = some (mm_k k).2.2.2.1 ∧ mm_ak o = 0 ∧ (st.take n).length = n then some (k, vR o :: (st.take n).reverse, rest) else none | _ => none)
    | _ => none) = _
  rw [hm]
  show (match st.drop n with | .inr (.inr o) :: rest => if mm_oc o = some (mm_k k).2.2.2.1 ∧ mm_ak o = 0 ∧ (st.take n).length = n then some (k, vR o :: (st.take n).reverse, rest) else none | _ => none) = _
  rw [hd]
  show (if mm_oc o = some (mm_k k).2.2.2.1 ∧ mm_ak o = 0 ∧ (st.take n).length = n then _ else none) = _
  rw [if_pos ⟨ho, h0, hn⟩]
theorem mm_inv_s {c i n k : Nat} {st rest : List mm_V} (hm : mm_ml c i = some (1, n, k)) (hd : st.drop n = rest) (hn : (st.take n).length = n) {a : List mm_V} (ha : (st.take n).reverse = a) : mm_inv (.invokestatic i) c st = some (k, a, rest) := by
  subst ha; subst hd
  show (match mm_ml c i with
    | some (1, n, k) => if (st.take n).length = n then some (k, (st.take n).reverse, st.drop n) else none
    | _ => none) = _
  rw [hm]
  show (if (st.take n).length = n then _ else none) = _
  rw [if_pos hn]
theorem ev_callv {i n k o : Nat} (K' : mm_K) (a rest : List mm_V) (q : Nat) (hd : decode K.1 pc = .ok (.invokevirtual i, 3)) (hm : mm_ml K.2.2.2.1 i = some (0, n, k)) (hk : mm_k k = K') (hdr : st.drop n = vR o :: rest) (ho : mm_oc o = some K'.2.2.2.1) (h0 : mm_ak o = 0) (hn : (st.take n).length = n) (ha : vR o :: (st.take n).reverse = a) (h4 : mm_cs rest ≤ 8) (hf : (mm_flat a).length ≤ K'.2.1) (hq : pc + 3 = q) : mm_ev K r pc L st h = if mm_rk K' a h < r then (mm_call K' a h).bind (fun w => mm_ev K r q L (w.1 ++ rest) w.2) else none :=
  ev_call K' a rest q hd rfl rfl (mm_inv_v hm hk hdr ho h0 hn ha) hk h4 hf hq
theorem ev_calls {i n k : Nat} (K' : mm_K) (a rest : List mm_V) (q : Nat) (hd : decode K.1 pc = .ok (.invokestatic i, 3)) (hm : mm_ml K.2.2.2.1 i = some (1, n, k)) (hk : mm_k k = K') (hdr : st.drop n = rest) (hn : (st.take n).length = n) (ha : (st.take n).reverse = a) (h4 : mm_cs rest ≤ 8) (hf : (mm_flat a).length ≤ K'.2.1) (hq : pc + 3 = q) : mm_ev K r pc L st h = if mm_rk K' a h < r then (mm_call K' a h).bind (fun w => mm_ev K r q L (w.1 ++ rest) w.2) else none :=
  ev_call K' a rest q hd rfl rfl (mm_inv_s hm hdr hn ha) hk h4 hf hq
/-- the same where the rank is known to be less -/
theorem ev_rk {α : Type} {n r : Nat} {A B : α} (h : n < r) : (if n < r then A else B) = A := if_pos h
theorem ev_iret {x : Int} (hd : decode K.1 pc = .ok (.ireturn, 1)) (hk : K.2.2.1 = 1) : mm_ev K r pc L [vI x] h = some ([vI x], h) := by
  refine ev_ret hd rfl ?_
  show (if K.2.2.1 = 1 ∨ _ then some [vI x] else none) = _
  rw [if_pos (Or.inl hk)]
theorem ev_zret {x : Int} (hd : decode K.1 pc = .ok (.ireturn, 1)) (hk : K.2.2.1 = 2) : mm_ev K r pc L [vI x] h = if x = 0 ∨ x = 1 then some ([vI x], h) else none := by
  by_cases z : x = 0 ∨ x = 1
  · rw [if_pos z]
    refine ev_ret hd rfl ?_
    show (if K.2.2.1 = 1 ∨ (K.2.2.1 = 2 ∧ (x = 0 ∨ x = 1)) then some [vI x] else none) = _
    rw [if_pos (Or.inr ⟨hk, z⟩)]
  · rw [if_neg z]
    refine ev_stuck hd ?_ rfl rfl
    show (if K.2.2.1 = 1 ∨ (K.2.2.1 = 2 ∧ (x = 0 ∨ x = 1)) then some [vI x] else none) = _
    rw [if_neg (fun w => by rcases w with w | w
                            · omega
                            · exact z w.2)]
theorem ev_zret0 (hd : decode K.1 pc = .ok (.ireturn, 1)) (hk : K.2.2.1 = 2) : mm_ev K r pc L [vI 0] h = some ([vI 0], h) := by rw [ev_zret hd hk]; rfl
theorem ev_zret1 (hd : decode K.1 pc = .ok (.ireturn, 1)) (hk : K.2.2.1 = 2) : mm_ev K r pc L [vI 1] h = some ([vI 1], h) := by rw [ev_zret hd hk]; rfl
theorem ev_lret {x : Int} (hd : decode K.1 pc = .ok (.lreturn, 1)) (hk : K.2.2.1 = 3) : mm_ev K r pc L [vL x] h = some ([vL x], h) := by
  refine ev_ret hd rfl ?_
  show (if K.2.2.1 = 3 then some [vL x] else none) = _
  rw [if_pos hk]
theorem ev_vret (hd : decode K.1 pc = .ok (.return_, 1)) (hk : K.2.2.1 = 0) : mm_ev K r pc L [] h = some ([], h) := by
  refine ev_ret hd rfl ?_
  show (if K.2.2.1 = 0 then some [] else none) = _
  rw [if_pos hk]
end OPS
