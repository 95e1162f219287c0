/-! any step -/
section SO3
variable {p : Program} {l : Launch} {e : Env} {R : Room} {s : State} {m : MethodId} {args : Array Value} {below : List Frame} {meth : Method} {c : Code} {H : Heap} {locs : List Loc} {cells slots : Nat} {Q : State → Prop}
variable {D : va_G} {cy : Nat → ClassId} {ad : Nat → Nat} {A : Nat → Prop} {X : (Nat → Int) × Nat} {K : mm_K} {pc len pc' pc1 : Nat} {ls : Array Slot} {L L' : mm_L} {st st' : List mm_V} {h h' : mm_M}
theorem mm_shr32 (x : Int32) : Int32.ofInt x.toInt = x := Int32.ofInt_toInt x
theorem mm_lv_at {k : Nat} {v : mm_V} (hL : mm_lc ad K.2.1 L ls) (hk : L[k]? = some (some v)) : ∃ j : Nat, (mm_lv ad L)[j]? = some (k, mm_val ad v) := List.getElem?_of_mem (mm_lv_in.mpr ⟨v, hk, rfl⟩)
set_option maxHeartbeats 4000000 in
theorem so_s {ins : Instr} (hd : decode K.1 pc = .ok (ins, len)) (hlk : mm_lok ins len = true) (hs : mm_s K pc ins L st h = some (pc', L', st', h')) (hC : mm_Cx D cy ad A X K p s m args c) (hR : mm_Rp D cy ad A X s.heap h H locs) (hL : mm_lc ad K.2.1 L ls) (hst : ∀ v ∈ st, mm_ok v)
    (hroom : 1 ≤ R.frames ∧ 100 ≤ R.locals ∧ cells ≤ R.cells ∧ slots ≤ R.slots)
    (kk : mm_KK p l e R s m args below meth c cells slots Q D cy ad A X K.2.1 pc' L' st' h') : W p l e R s m args below meth c H locs cells slots Q (F0 m pc ls (st.map (mm_val ad))) := by
  have hC0 := hC
  obtain ⟨hx, hb, hml, hown, hts, hK, -, -⟩ := hC0
  have l1 : ∀ {n : Nat}, (len == n) = true → len = n := fun q => by simpa using q
  cases ins
  case iconst n =>
    have e1 := l1 (n := 1) hlk; subst e1
    exact so_p (v := vI (w32 n)) hs hR hL hst (w32_r n) (fun k => lv_iconst hx hb hd (mm_w32w n).symm k) kk
  case bipush n =>
    have e1 := l1 (n := 2) hlk; subst e1
    exact so_p (v := vI (w8 n)) hs hR hL hst (w8_r32 n) (fun k => lv_bipush hx hb hd (mm_c8 n) k) kk
  case sipush n =>
    have e1 := l1 (n := 3) hlk; subst e1
    exact so_p (v := vI (w16 n)) hs hR hL hst (w16_r32 n) (fun k => lv_sipush hx hb hd (mm_c16 n) k) kk
  case lconst n =>
    have e1 := l1 (n := 1) hlk; subst e1
    exact so_p (v := vL ((n : Nat) : Int)) hs hR hL hst (by have := n.isLt; show mm_r64 _; unfold mm_r64; omega) (fun k => lv_lconst hx hb hd (by rw [← Int64.ofInt_eq_ofNat]) k) kk
  case ldc i =>
    have e1 := l1 (n := 2) hlk; subst e1
    change (mm_cI K.2.2.2.1 i).bind (fun v => some (pc + 2, L, vI v :: st, h)) = _ at hs
    cases hv : mm_cI K.2.2.2.1 i with
    | none => rw [hv] at hs; cases hs
    | some v =>
      rw [hv] at hs
      obtain ⟨a1, a2⟩ := mm_cI_spec hv
      exact so_p (v := vI v) hs hR hL hst a2 (fun k => lv_ldc hx hb hown (hts _ a1) hd k) kk
  case ldc_w i =>
    have e1 := l1 (n := 3) hlk; subst e1
    change (mm_cI K.2.2.2.1 i).bind (fun v => some (pc + 3, L, vI v :: st, h)) = _ at hs
    cases hv : mm_cI K.2.2.2.1 i with
    | none => rw [hv] at hs; cases hs
    | some v =>
      rw [hv] at hs
      obtain ⟨a1, a2⟩ := mm_cI_spec hv
      exact so_p (v := vI v) hs hR hL hst a2 (fun k => lv_ldcw hx hb hown (hts _ a1) hd k) kk
  case ldc2_w i =>
    have e1 := l1 (n := 3) hlk; subst e1
    change (mm_cL K.2.2.2.1 i).bind (fun v => some (pc + 3, L, vL v :: st, h)) = _ at hs
    cases hv : mm_cL K.2.2.2.1 i with
    | none => rw [hv] at hs; cases hs
    | some v =>
      rw [hv] at hs
      obtain ⟨a1, a2⟩ := mm_cL_spec hv
      exact so_p (v := vL v) hs hR hL hst a2 (fun k => W.ldc2 hx hb hown (hts _ a1) rfl hd k) kk
  case iload_n i =>
    have e1 := l1 (n := 1) hlk; subst e1
    exact so_ld hs hR hL hst (fun v hv hk k => by
      obtain x | x | x := v
      · exact lv_iload_n hx hb hd rfl hv k
      · cases hk
      · cases hk) kk
  case iload i =>
    have e1 := l1 (n := 2) hlk; subst e1
    exact so_ld hs hR hL hst (fun v hv hk k => by
      obtain x | x | x := v
      · exact lv_iload hx hb hd hv k
      · cases hk
      · cases hk) kk
  case lload_n i =>
    have e1 := l1 (n := 1) hlk; subst e1
    exact so_ld hs hR hL hst (fun v hv hk k => by
      obtain x | x | x := v
      · cases hk
      · exact lv_lload_n hx hb hd rfl hv k
      · cases hk) kk
  case lload i =>
    have e1 := l1 (n := 2) hlk; subst e1
    exact so_ld hs hR hL hst (fun v hv hk k => by
      obtain x | x | x := v
      · cases hk
      · exact lv_lload hx hb hd hv k
      · cases hk) kk
  case aload_n i =>
    have e1 := l1 (n := 1) hlk; subst e1
    exact so_ld hs hR hL hst (fun v hv hk k => by
      obtain x | x | x := v
      · cases hk
      · cases hk
      · exact lv_aload_n hx hb hd rfl hv k) kk
  case aload i =>
    have e1 := l1 (n := 2) hlk; subst e1
    exact so_ld hs hR hL hst (fun v hv hk k => by
      obtain x | x | x := v
      · cases hk
      · cases hk
      · exact lv_aload hx hb hd hv k) kk
  case istore_n i =>
    have e1 := l1 (n := 1) hlk; subst e1
    exact so_st1 hs hR hL hst (fun x rest hi k => lv_istore_n hx hb hd rfl (mm_lc_has hL) hi rfl k) kk
  case istore i =>
    have e1 := l1 (n := 2) hlk; subst e1
    exact so_st1 hs hR hL hst (fun x rest hi k => lv_istore hx hb hd (mm_lc_has hL) hi rfl k) kk
  case lstore_n i =>
    have e1 := l1 (n := 1) hlk; subst e1
    exact so_st2 hs hR hL hst (fun x rest hi k => lv_lstore_n hx hb hd rfl (mm_lc_has hL) hi rfl k) kk
  case lstore i =>
    have e1 := l1 (n := 2) hlk; subst e1
    exact so_st2 hs hR hL hst (fun x rest hi k => lv_lstore hx hb hd (mm_lc_has hL) hi rfl k) kk
  case astore_n i =>
    have e1 := l1 (n := 1) hlk; subst e1
    exact so_st3 hs hR hL hst (fun x rest hi k => lv_astore_n hx hb hd rfl (mm_lc_has hL) hi rfl k) kk
  case iinc i n =>
    have e1 := l1 (n := 3) hlk; subst e1
    change mm_inc (pc + 3) i n L st h = _ at hs
    unfold mm_inc at hs
    split at hs
    · rename_i x hxx
      cases hf : mm_sto L i (vI (w32 (x + n))) with
      | none => rw [hf] at hs; cases hs
      | some L1 =>
        rw [hf] at hs
        cases hs
        obtain ⟨j, hj⟩ := mm_lv_at hL hxx
        exact lv_iinc hx hb hd (mm_lc_has hL) hj rfl (by rw [← hL.1]; exact mm_sto_lt hf) rfl (fun ls' hl' => kk H locs ls' hR (mm_lc_sto hL hf (w32_r _) (by rw [show mm_val ad (vI (w32 (x + n))) = .int (Int32.ofInt x + Int32.ofInt n) from congrArg Value.int (mm_add x n)]; exact hl')) hst)
    · cases hs
  case iadd =>
    have e1 := l1 (n := 1) hlk; subst e1
    exact so_2 hs hR hL hst (fun x y z rest hx' hy' e => by cases e; exact ⟨w32_r _, fun k => lv_iadd hx hb hd (by rw [← mm_add]; exact k)⟩) kk
  case isub =>
    have e1 := l1 (n := 1) hlk; subst e1
    exact so_2 hs hR hL hst (fun x y z rest hx' hy' e => by cases e; exact ⟨w32_r _, fun k => lv_isub hx hb hd (by rw [← mm_sub]; exact k)⟩) kk
  case imul =>
    have e1 := l1 (n := 1) hlk; subst e1
    exact so_2 hs hR hL hst (fun x y z rest hx' hy' e => by cases e; exact ⟨w32_r _, fun k => lv_imul hx hb hd (by rw [← mm_mul]; exact k)⟩) kk
  case idiv =>
    have e1 := l1 (n := 1) hlk; subst e1
    exact so_2 hs hR hL hst (fun x y z rest hx' hy' e => by
      by_cases hy0 : y = 0
      · rw [if_pos hy0] at e; cases e
      · rw [if_neg hy0] at e; cases e
        exact ⟨w32_r _, fun k => lv_idiv hx hb hd (by rw [mm_z32]; exact fun q => hy0 ((mm_eq32 hy' mm_rz).mp q)) (by rw [← mm_div hx' hy']; exact k)⟩) kk
  case irem =>
    have e1 := l1 (n := 1) hlk; subst e1
    exact so_2 hs hR hL hst (fun x y z rest hx' hy' e => by
      by_cases hy0 : y = 0
      · rw [if_pos hy0] at e; cases e
      · rw [if_neg hy0] at e; cases e
        exact ⟨mm_tmod_r32 hx', fun k => lv_irem hx hb hd (by rw [mm_z32]; exact fun q => hy0 ((mm_eq32 hy' mm_rz).mp q)) (by rw [← mm_rem hx' hy']; exact k)⟩) kk
  case iand =>
    have e1 := l1 (n := 1) hlk; subst e1
    exact so_2 hs hR hL hst (fun x y z rest hx' hy' e => by cases e; exact ⟨mm_i32r _, fun k => lv_iand hx hb hd (by unfold iAnd at k; rw [mm_shr32] at k; exact k)⟩) kk
  case ior =>
    have e1 := l1 (n := 1) hlk; subst e1
    exact so_2 hs hR hL hst (fun x y z rest hx' hy' e => by cases e; exact ⟨mm_i32r _, fun k => lv_ior hx hb hd (by unfold iOr at k; rw [mm_shr32] at k; exact k)⟩) kk
  case ixor =>
    have e1 := l1 (n := 1) hlk; subst e1
    exact so_2 hs hR hL hst (fun x y z rest hx' hy' e => by cases e; exact ⟨mm_i32r _, fun k => lv_ixor hx hb hd (by unfold iXor at k; rw [mm_shr32] at k; exact k)⟩) kk
  case ishl =>
    have e1 := l1 (n := 1) hlk; subst e1
    exact so_2 hs hR hL hst (fun x y z rest hx' hy' e => by cases e; exact ⟨mm_i32r _, fun k => lv_ishl hx hb hd (by unfold iShl at k; rw [mm_shr32] at k; exact k)⟩) kk
  case ishr =>
    have e1 := l1 (n := 1) hlk; subst e1
    exact so_2 hs hR hL hst (fun x y z rest hx' hy' e => by cases e; exact ⟨mm_i32r _, fun k => lv_ishr hx hb hd (by unfold iShr at k; rw [mm_shr32] at k; exact k)⟩) kk
  case iushr =>
    have e1 := l1 (n := 1) hlk; subst e1
    exact so_2 hs hR hL hst (fun x y z rest hx' hy' e => by cases e; exact ⟨mm_i32r _, fun k => lv_iushr hx hb hd rfl (by unfold iUshr at k; rw [mm_shr32] at k; exact k)⟩) kk
  case ineg =>
    have e1 := l1 (n := 1) hlk; subst e1
    exact so_1 hs hR hL hst (fun x rest hx' => ⟨w32_r _, fun k => lv_ineg hx hb hd (by rw [← mm_neg]; exact k)⟩) kk
  case i2l =>
    have e1 := l1 (n := 1) hlk; subst e1
    exact so_1 hs hR hL hst (fun x rest hx' => ⟨(by unfold mm_r32 at hx'; show mm_r64 x; unfold mm_r64; omega), fun k => lv_i2l hx hb hd (mm_i2l hx') k⟩) kk
  case i2b =>
    have e1 := l1 (n := 1) hlk; subst e1
    exact so_1 hs hR hL hst (fun x rest hx' => ⟨w8_r32 x, fun k => lv_i2b hx hb hd (mm_b8 x) k⟩) kk
  case i2s =>
    have e1 := l1 (n := 1) hlk; subst e1
    exact so_1 hs hR hL hst (fun x rest hx' => ⟨w16_r32 x, fun k => lv_i2s hx hb hd (mm_s16 x) k⟩) kk
  case l2i =>
    have e1 := l1 (n := 1) hlk; subst e1
    change (match st with | .inr (.inl x) :: st => some (pc + 1, L, vI (w32 x) :: st, h) | _ => none) = _ at hs
    split at hs
    · rename_i x st0
      cases hs
      exact lv_l2i hx hb hd (mm_l2i x) (kk H locs ls hR hL (mm_ok_c (v := vI (w32 x)) (w32_r x) (mm_ok_t hst)))
    · cases hs
  case ladd =>
    have e1 := l1 (n := 1) hlk; subst e1
    exact so_3 hs hR hL hst (fun x y z rest hx' hy' e => by cases e; exact ⟨w64_r _, fun k => lv_ladd hx hb hd (by rw [← mm_addL]; exact k)⟩) kk
  case lsub =>
    have e1 := l1 (n := 1) hlk; subst e1
    exact so_3 hs hR hL hst (fun x y z rest hx' hy' e => by cases e; exact ⟨w64_r _, fun k => lv_lsub hx hb hd (by rw [← mm_subL]; exact k)⟩) kk
  case lmul =>
    have e1 := l1 (n := 1) hlk; subst e1
    exact so_3 hs hR hL hst (fun x y z rest hx' hy' e => by cases e; exact ⟨w64_r _, fun k => lv_lmul hx hb hd (by rw [← mm_mulL]; exact k)⟩) kk
  case ldiv =>
    have e1 := l1 (n := 1) hlk; subst e1
    exact so_3 hs hR hL hst (fun x y z rest hx' hy' e => by
      by_cases hy0 : y = 0
      · rw [if_pos hy0] at e; cases e
      · rw [if_neg hy0] at e; cases e
        exact ⟨w64_r _, fun k => lv_ldiv hx hb hd (by rw [mm_z64]; exact fun q => hy0 ((mm_eq64 hy' mm_rz64).mp q)) (by rw [← mm_divL hx' hy']; exact k)⟩) kk
  case lrem =>
    have e1 := l1 (n := 1) hlk; subst e1
    exact so_3 hs hR hL hst (fun x y z rest hx' hy' e => by
      by_cases hy0 : y = 0
      · rw [if_pos hy0] at e; cases e
      · rw [if_neg hy0] at e; cases e
        exact ⟨mm_tmod_r64 hx', fun k => lv_lrem hx hb hd (by rw [mm_z64]; exact fun q => hy0 ((mm_eq64 hy' mm_rz64).mp q)) (by rw [← mm_remL hx' hy']; exact k)⟩) kk
  case land =>
    have e1 := l1 (n := 1) hlk; subst e1
    exact so_3 hs hR hL hst (fun x y z rest hx' hy' e => by cases e; exact ⟨mm_i64r _, fun k => lv_land hx hb hd (by change W p l e R s m args below meth c H locs cells slots Q (F0 m (pc + 1) ls (.long (Int64.ofInt (lAnd x y)) :: rest)) at k; unfold lAnd at k; rw [Int64.ofInt_toInt] at k; exact k)⟩) kk
  case lor =>
    have e1 := l1 (n := 1) hlk; subst e1
    exact so_3 hs hR hL hst (fun x y z rest hx' hy' e => by cases e; exact ⟨mm_i64r _, fun k => lv_lor hx hb hd (by change W p l e R s m args below meth c H locs cells slots Q (F0 m (pc + 1) ls (.long (Int64.ofInt (lOr x y)) :: rest)) at k; unfold lOr at k; rw [Int64.ofInt_toInt] at k; exact k)⟩) kk
  case lcmp =>
    have e1 := l1 (n := 1) hlk; subst e1
    exact so_3 hs hR hL hst (fun x y z rest hx' hy' e => by cases e; exact ⟨(by show mm_r32 (lCmp x y); unfold lCmp mm_r32; by_cases z1 : y < x <;> by_cases z2 : x = y <;> simp [z1, z2]), fun k => W.lcmp hx hb hd (by rw [mm_lcmp hx' hy']; exact k)⟩) kk
  case lshl =>
    have e1 := l1 (n := 1) hlk; subst e1
    change (match st with | .inl y :: .inr (.inl x) :: st => some (pc + 1, L, vL (lShl x y) :: st, h) | _ => none) = _ at hs
    split at hs
    · rename_i y x st0
      cases hs
      exact lv_lshl hx hb hd (v := Int64.ofInt (lShl x y)) (by unfold lShl; rw [Int64.ofInt_toInt]) (kk H locs ls hR hL (mm_ok_c (v := vL (lShl x y)) (mm_i64r _) (mm_ok_t (mm_ok_t hst))))
    · cases hs
  case dup =>
    have e1 := l1 (n := 1) hlk; subst e1
    change (match st with | v :: st => if mm_cat1 v then some (pc + 1, L, v :: v :: st, h) else none | _ => none) = _ at hs
    split at hs
    · rename_i v st0
      split at hs
      · rename_i hv
        cases hs
        exact lv_dup hx hb hd (by obtain x | x | x := v <;> first | rfl | cases hv) (kk H locs ls hR hL (mm_ok_c (mm_ok_h hst) hst))
      · cases hs
    · cases hs
  case pop =>
    have e1 := l1 (n := 1) hlk; subst e1
    change (match st with | v :: st => if mm_cat1 v then some (pc + 1, L, st, h) else none | _ => none) = _ at hs
    split at hs
    · rename_i v st0
      split at hs
      · rename_i hv
        cases hs
        exact lv_pop hx hb hd (by obtain x | x | x := v <;> first | rfl | cases hv) (kk H locs ls hR hL (mm_ok_t hst))
      · cases hs
    · cases hs
  case dup2 =>
    have e1 := l1 (n := 1) hlk; subst e1
    change (match st with | v :: w :: st => if mm_cat1 v && mm_cat1 w then some (pc + 1, L, v :: w :: v :: w :: st, h) else none | _ => none) = _ at hs
    split at hs
    · rename_i v w st0
      split at hs
      · rename_i hv
        cases hs
        simp only [Bool.and_eq_true] at hv
        exact lv_dup2_11 hx hb hd (by obtain x | x | x := v <;> first | rfl | cases hv.1) (by obtain x | x | x := w <;> first | rfl | cases hv.2) (kk H locs ls hR hL (mm_ok_c (mm_ok_h hst) (mm_ok_c (mm_ok_h (mm_ok_t hst)) hst)))
      · cases hs
    · cases hs
  case ifCond cnd off =>
    have e1 := l1 (n := 3) hlk; subst e1
    have c0 : ∀ {x : Int}, mm_r32 x → (Int32.ofInt x = 0 ↔ x = 0) := fun hz => by rw [mm_z32]; exact mm_eq32 hz mm_rz
    have c1 : ∀ {x : Int}, mm_r32 x → (Int32.ofInt x < 0 ↔ x < 0) := fun hz => by rw [mm_z32]; exact mm_lt32 hz mm_rz
    have c2 : ∀ {x : Int}, mm_r32 x → (0 < Int32.ofInt x ↔ 0 < x) := fun hz => by rw [mm_z32]; exact mm_lt32 mm_rz hz
    have c3 : ∀ {x : Int}, mm_r32 x → (Int32.ofInt x ≤ 0 ↔ x ≤ 0) := fun hz => by rw [mm_z32]; exact mm_le32 hz mm_rz
    have c4 : ∀ {x : Int}, mm_r32 x → (0 ≤ Int32.ofInt x ↔ 0 ≤ x) := fun hz => by rw [mm_z32]; exact mm_le32 mm_rz hz
    cases cnd
    case eq => exact so_if hs hR hL hst (fun x tgt rest hx' ht k1 k2 => lv_if_eq hx hb hd ht (fun w => k1 (decide_eq_true ((c0 hx').mp w))) (fun w => k2 (decide_eq_false (fun z => w ((c0 hx').mpr z))))) kk
    case ne => exact so_if hs hR hL hst (fun x tgt rest hx' ht k1 k2 => lv_if_ne hx hb hd ht (fun w => k1 (decide_eq_true ((not_congr (c0 hx')).mp w))) (fun w => k2 (decide_eq_false (fun z => z ((c0 hx').mp w))))) kk
    case lt => exact so_if hs hR hL hst (fun x tgt rest hx' ht k1 k2 => lv_if_lt hx hb hd ht (fun w => k1 (decide_eq_true ((c1 hx').mp w))) (fun w => k2 (decide_eq_false (fun z => w ((c1 hx').mpr z))))) kk
    case ge => exact so_if hs hR hL hst (fun x tgt rest hx' ht k1 k2 => lv_if_ge hx hb hd ht (fun w => k1 (decide_eq_true ((c4 hx').mp w))) (fun w => k2 (decide_eq_false (fun z => w ((c4 hx').mpr z))))) kk
    case gt => exact so_if hs hR hL hst (fun x tgt rest hx' ht k1 k2 => lv_if_gt hx hb hd ht (fun w => k1 (decide_eq_true ((c2 hx').mp w))) (fun w => k2 (decide_eq_false (fun z => w ((c2 hx').mpr z))))) kk
    case le => exact so_if hs hR hL hst (fun x tgt rest hx' ht k1 k2 => lv_if_le hx hb hd ht (fun w => k1 (decide_eq_true ((c3 hx').mp w))) (fun w => k2 (decide_eq_false (fun z => w ((c3 hx').mpr z))))) kk
  case if_icmp cnd off =>
    have e1 := l1 (n := 3) hlk; subst e1
    cases cnd
    case eq => exact so_ic hs hR hL hst (fun x y tgt rest hx' hy' ht k1 k2 => lv_icmp_eq hx hb hd ht (fun w => k1 (decide_eq_true ((mm_eq32 hx' hy').mp w))) (fun w => k2 (decide_eq_false (fun z => w ((mm_eq32 hx' hy').mpr z))))) kk
    case ne => exact so_ic hs hR hL hst (fun x y tgt rest hx' hy' ht k1 k2 => lv_icmp_ne hx hb hd ht (fun w => k1 (decide_eq_true ((not_congr (mm_eq32 hx' hy')).mp w))) (fun w => k2 (decide_eq_false (fun z => z ((mm_eq32 hx' hy').mp w))))) kk
    case lt => exact so_ic hs hR hL hst (fun x y tgt rest hx' hy' ht k1 k2 => lv_icmp_lt hx hb hd ht (fun w => k1 (decide_eq_true ((mm_lt32 hx' hy').mp w))) (fun w => k2 (decide_eq_false (fun z => w ((mm_lt32 hx' hy').mpr z))))) kk
    case ge => exact so_ic hs hR hL hst (fun x y tgt rest hx' hy' ht k1 k2 => lv_icmp_ge hx hb hd ht (fun w => k1 (decide_eq_true ((mm_le32 hy' hx').mp w))) (fun w => k2 (decide_eq_false (fun z => w ((mm_le32 hy' hx').mpr z))))) kk
    case gt => exact so_ic hs hR hL hst (fun x y tgt rest hx' hy' ht k1 k2 => lv_icmp_gt hx hb hd ht (fun w => k1 (decide_eq_true ((mm_lt32 hy' hx').mp w))) (fun w => k2 (decide_eq_false (fun z => w ((mm_lt32 hy' hx').mpr z))))) kk
    case le => exact so_ic hs hR hL hst (fun x y tgt rest hx' hy' ht k1 k2 => lv_icmp_le hx hb hd ht (fun w => k1 (decide_eq_true ((mm_le32 hx' hy').mp w))) (fun w => k2 (decide_eq_false (fun z => w ((mm_le32 hx' hy').mpr z))))) kk
  case goto off =>
    have e1 := l1 (n := 3) hlk; subst e1
    obtain ⟨ht, rfl, rfl, rfl⟩ := mm_jmp_spec hs
    exact lv_goto hx hb hd ht (kk H locs ls hR hL hst)
  case tableswitch d lo hi offs =>
    change (match st with | .inl x :: st => if x < lo ∨ hi < x then mm_jmp pc d L st h else (match offs[(x - lo).toNat]? with | some off => mm_jmp pc off L st h | none => none) | _ => none) = _ at hs
    split at hs
    · rename_i x st0
      have hxr : mm_r32 x := mm_ok_h hst
      have ex : (Int32.ofInt x).toInt = x := mm_t32 hxr
      by_cases z : x < lo ∨ hi < x
      · rw [if_pos z] at hs
        obtain ⟨ht, rfl, rfl, rfl⟩ := mm_jmp_spec hs
        exact lv_tableOut hx hb hd (by rw [ex]; exact z) ht (kk H locs ls hR hL (mm_ok_t hst))
      · rw [if_neg z] at hs
        cases ho : offs[(x - lo).toNat]? with
        | none => rw [ho] at hs; cases hs
        | some off =>
          rw [ho] at hs
          obtain ⟨ht, rfl, rfl, rfl⟩ := mm_jmp_spec hs
          exact lv_tableIn hx hb hd (by rw [ex]; exact fun w => z (Or.inl w)) (by rw [ex]; exact fun w => z (Or.inr w)) (by rw [ex]; exact ho) ht (kk H locs ls hR hL (mm_ok_t hst))
    · cases hs
  case lookupswitch d ps =>
    change (match st with | .inl x :: st => if (ps.toList.zip (ps.toList.drop 1)).all (fun (a, next) => a.1 < next.1) = true then mm_jmp pc (Op.lookupswitch.offset ps.toList d x) L st h else none | _ => none) = _ at hs
    split at hs
    · rename_i x st0
      have hxr : mm_r32 x := mm_ok_h hst
      have ex : (Int32.ofInt x).toInt = x := mm_t32 hxr
      split at hs
      · rename_i hp
        obtain ⟨ht, rfl, rfl, rfl⟩ := mm_jmp_spec hs
        exact lv_lookup hx hb hd hp (by rw [ex]) ht (kk H locs ls hR hL (mm_ok_t hst))
      · cases hs
    · cases hs
  case iaload =>
    have e1 := l1 (n := 1) hlk; subst e1
    exact so_lda (k := 1) hs hC hR hL hst (fun a n f i rest j _ _ hj hi k => va_iald (D := D) hx hb hK hR.1 j 0 hj rfl hi hd k) (fun a n f i rest j z => absurd z (by decide)) (fun t N f i rest _ hT hi k => va_ti hx hb hT hR.2.2.1 hi rfl hd k) ⟨by decide, by decide⟩ kk
  case baload =>
    have e1 := l1 (n := 1) hlk; subst e1
    exact so_lda (k := 3) hs hC hR hL hst (fun a n f i rest j _ _ hj hi k => va_bald (D := D) hx hb hK hR.1 j 2 hj rfl hi hd k) (fun a n f i rest j z => absurd z (by decide)) (fun t N f i rest z => absurd z (by decide)) ⟨by decide, by decide⟩ kk
  case saload =>
    have e1 := l1 (n := 1) hlk; subst e1
    exact so_lda (k := 4) hs hC hR hL hst (fun a n f i rest j _ _ hj hi k => va_sald (D := D) hx hb hK hR.1 j 3 hj rfl hi hd k) (fun a n f i rest j z => absurd z (by decide)) (fun t N f i rest z => absurd z (by decide)) ⟨by decide, by decide⟩ kk
  case laload =>
    have e1 := l1 (n := 1) hlk; subst e1
    exact so_lda (k := 2) hs hC hR hL hst (fun a n f i rest j z => absurd rfl z) (fun a n f i rest j _ hj hi k => va_lald (D := D) hx hb hK hR.1 j 1 hj rfl hi hd k) (fun t N f i rest z => absurd z (by decide)) ⟨by decide, by decide⟩ kk
  case iastore =>
    have e1 := l1 (n := 1) hlk; subst e1
    exact so_sta (k := 1) hs hC hR hL hst (fun a n f i x y rest j hy hj hi k => by
      rcases hy with ⟨-, rfl⟩ | ⟨z, -⟩ | ⟨z, -⟩
      · exact va_iast (D := D) hx hb hK hR.1 hR.2.1 hR.2.2.1 j 0 hj rfl hi hd k
      · exact absurd z (by decide)
      · exact absurd z (by decide)) (fun a n f i x rest j z => absurd z (by decide)) kk
  case bastore =>
    have e1 := l1 (n := 1) hlk; subst e1
    exact so_sta (k := 3) hs hC hR hL hst (fun a n f i x y rest j hy hj hi k => by
      rcases hy with ⟨z, -⟩ | ⟨-, rfl⟩ | ⟨z, -⟩
      · exact absurd z (by decide)
      · exact va_bast (D := D) hx hb hK hR.1 hR.2.1 hR.2.2.1 j 2 hj rfl hi hd k
      · exact absurd z (by decide)) (fun a n f i x rest j z => absurd z (by decide)) kk
  case sastore =>
    have e1 := l1 (n := 1) hlk; subst e1
    exact so_sta (k := 4) hs hC hR hL hst (fun a n f i x y rest j hy hj hi k => by
      rcases hy with ⟨z, -⟩ | ⟨z, -⟩ | ⟨-, rfl⟩
      · exact absurd z (by decide)
      · exact absurd z (by decide)
      · exact va_sast (D := D) hx hb hK hR.1 hR.2.1 hR.2.2.1 j 3 hj rfl hi hd k) (fun a n f i x rest j z => absurd z (by decide)) kk
  case lastore =>
    have e1 := l1 (n := 1) hlk; subst e1
    exact so_sta (k := 2) hs hC hR hL hst (fun a n f i x y rest j hy => by
      rcases hy with ⟨z, -⟩ | ⟨z, -⟩ | ⟨z, -⟩
      · exact absurd z (by decide)
      · exact absurd z (by decide)
      · exact absurd z (by decide)) (fun a n f i x rest j _ hj hi k => va_last (D := D) hx hb hK hR.1 hR.2.1 hR.2.2.1 j 1 hj rfl hi hd k) kk
  case arraylength =>
    have e1 := l1 (n := 1) hlk; subst e1
    change (match st with | .inr (.inr c) :: st => if (1 ≤ mm_ak c ∧ mm_ak c ≤ 4) ∨ mm_ak c = 6 then some (pc + 1, L, vI (mm_al c h) :: st, h) else none | _ => none) = _ at hs
    split at hs
    · rename_i o st0
      split at hs
      · rename_i ho
        cases hs
        by_cases h6 : mm_ak o = 6
        · have ho : o = 110 := by
            unfold mm_ak at h6
            by_cases hc : o < 83
            · rw [if_pos hc] at h6
              exfalso
              have := List.all_eq_true.mp mm_obchk o (List.mem_range.mpr hc)
              generalize mm_obT.getD o (9, 0, 0) = q at this h6
              obtain ⟨k', a, n⟩ := q
              dsimp only at h6
              subst h6
              exact absurd (show ((6 : Nat) == 1 || (6 : Nat) == 2 || (6 : Nat) == 3 || (6 : Nat) == 4) = true from this) (by decide)
            · rw [if_neg hc] at h6
              split at h6
              · cases h6
              · split at h6
                · assumption
                · cases h6
          subst ho
          obtain ⟨hX1, -⟩ := hR.2.2.2.2
          have hal : mm_al 110 h = (X.2 : Nat) := by unfold mm_al; rw [if_pos h6, hX1]
          obtain ⟨hXs, hT⟩ := hC.2.2.2.2.2.2.2
          refine va_tlen hx hb hT hR.2.2.1 (v := Int32.ofInt (mm_al 110 h)) (by rw [hal, Int32.ofInt_eq_ofNat]) hd ?_
          exact kk H locs ls hR hL (mm_ok_c (v := vI (mm_al 110 h)) (by show mm_r32 _; rw [hal]; unfold mm_r32; omega) (mm_ok_t hst))
        · obtain ⟨hlt, -, han⟩ := mm_ak_lt (c := o) (by omega)
          have hal : mm_al o h = ((mm_obT.getD o (9, 0, 0)).2.2 : Nat) := by unfold mm_al; rw [if_neg h6, han]
          have hg := mm_ws_get (cy := cy) (ad := ad) (h := h) hlt
          have hsm : (mm_obT.getD o (9, 0, 0)).2.2 < 1000 := by
            have hch : ∀ c, c < mm_no → (mm_obT.getD c (9, 0, 0)).2.2 < 1000 := by decide +kernel
            exact hch o hlt
          have hr : mm_ok (vI (mm_al o h)) := by show mm_r32 _; rw [hal]; unfold mm_r32; omega
          have hi : Int32.ofNat (mm_obT.getD o (9, 0, 0)).2.2 = Int32.ofInt (mm_al o h) := by rw [hal, Int32.ofInt_eq_ofNat]
          by_cases h2 : mm_ak o = 2
          · rw [mm_ce_long h2] at hg
            exact va_alen (D := D) hx hb hK hR.1 o 1 hg rfl (v := Int32.ofInt (mm_al o h)) hi hd (kk H locs ls hR hL (mm_ok_c (v := vI (mm_al o h)) hr (mm_ok_t hst)))
          · have h3 : mm_ak o = 1 ∨ mm_ak o = 3 ∨ mm_ak o = 4 := by omega
            rw [mm_ce_int rfl h3] at hg
            rcases h3 with z | z | z
            · rw [z] at hg
              exact va_alen (D := D) hx hb hK hR.1 o 0 hg rfl (v := Int32.ofInt (mm_al o h)) hi hd (kk H locs ls hR hL (mm_ok_c (v := vI (mm_al o h)) hr (mm_ok_t hst)))
            · rw [z] at hg
              exact va_alen (D := D) hx hb hK hR.1 o 2 hg rfl (v := Int32.ofInt (mm_al o h)) hi hd (kk H locs ls hR hL (mm_ok_c (v := vI (mm_al o h)) hr (mm_ok_t hst)))
            · rw [z] at hg
              exact va_alen (D := D) hx hb hK hR.1 o 3 hg rfl (v := Int32.ofInt (mm_al o h)) hi hd (kk H locs ls hR hL (mm_ok_c (v := vI (mm_al o h)) hr (mm_ok_t hst)))
      · cases hs
    · cases hs
  case getfield i =>
    have e1 := l1 (n := 3) hlk; subst e1
    exact so_gf hs hd hC hR hL hst kk
  case putfield i =>
    have e1 := l1 (n := 3) hlk; subst e1
    exact so_pf hs hd hC hR hL hst kk
  case getstatic i =>
    have e1 := l1 (n := 3) hlk; subst e1
    change (mm_st K.2.2.2.1 i).bind (fun c => some (pc + 3, L, vR c :: st, h)) = _ at hs
    cases hv : mm_st K.2.2.2.1 i with
    | none => rw [hv] at hs; cases hs
    | some t =>
      rw [hv] at hs
      obtain ⟨q, hq, rfl, hw⟩ := mm_st_spec hv
      obtain ⟨hZ, -⟩ := hC.2.2.2.2.2.2.1 q hq
      exact so_p (v := vR q.1) hs hR hL hst trivial (fun k => va_gets hx hb hZ hR.2.2.1 hown (hts _ hw) (fun _ h9 => h9) hd k) kk
  case invokestatic i =>
    have e1 := l1 (n := 3) hlk; subst e1
    change (match mm_ml K.2.2.2.1 i with | some (k, _, _) => mm_nat (pc + 3) k L st h | none => none) = _ at hs
    split at hs
    · rename_i k n2 k2 hm
      exact so_nat hm hs hd hC hR hL hst hroom kk
    · cases hs
  all_goals exact absurd hs (by intro w; cases w)
end SO3
