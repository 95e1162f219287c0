/-! THE RUN OF THE MINI MACHINE IS A RUN OF THE MACHINE -/
def mm_Ad (ad : Nat → Nat) : Nat → Prop := fun q => ∃ c, c < mm_no ∧ q = ad c
/-- a method's start: its arguments, the cells' picture, the tables -/
def mm_Pc (D : va_G) (cy : Nat → ClassId) (ad : Nat → Nat) (X : (Nat → Int) × Nat) (a : List mm_V) (h : mm_M) : Array Value → State → Prop := fun v U => v = (a.map (mm_val ad)).toArray ∧ va_P D vwCl (mm_ws cy ad h) U.heap ∧ va_D (mm_Ad ad) (mm_ws cy ad h) ∧ va_K D vwCl (mm_tys cy) U ∧ mm_St ad (mm_Ad ad) U ∧ mm_Sc ad (mm_Ad ad) X U
/-- its end -/
def mm_Qc (D : va_G) (cy : Nat → ClassId) (ad : Nat → Nat) (X : (Nat → Int) × Nat) (q : List mm_V × mm_M) : Array Value → State → Outcome → State → Prop := fun _ st o t => o = .returned ((q.1.map (mm_val ad)).head?) ∧ (va_P D vwCl (mm_ws cy ad q.2) t.heap ∧ va_D (mm_Ad ad) (mm_ws cy ad q.2) ∧ (∀ v ∈ q.1, mm_ok v) ∧ mm_mok q.2 ∧ mm_hs X q.2) ∧ va_F (mm_Ad ad) st t
def mm_rm (r : Nat) : Room := { frames := r + 1, cells := 0, slots := 0, locals := 100 * (r + 1) }
theorem mm_St_moved {ad : Nat → Nat} {A : Nat → Prop} {u U : State} (hvm : u.vm.Alike U.vm) (hh : U.heap = u.heap) (h : mm_St ad A u) : mm_St ad A U := fun q hq => by rw [hh]; exact ⟨va_Z.moved hvm (h q hq).1, va_T.moved hvm (h q hq).2⟩
theorem mm_Sc_moved {ad : Nat → Nat} {A : Nat → Prop} {X : (Nat → Int) × Nat} {u U : State} (hvm : u.vm.Alike U.vm) (hh : U.heap = u.heap) (h : mm_Sc ad A X u) : mm_Sc ad A X U := ⟨h.1, by rw [hh]; exact va_T.moved hvm h.2⟩
section SND
variable {p : Program} {l : Launch} {e : Env} {R : Room} {s : State} {m : MethodId} {args : Array Value} {below : List Frame} {meth : Method} {c : Code} {H : Heap} {locs : List Loc} {cells slots : Nat} {Q : State → Prop}
variable {D : va_G} {cy : Nat → ClassId} {ad : Nat → Nat} {A : Nat → Prop} {X : (Nat → Int) × Nat} {K : mm_K} {pc len pc' pc1 : Nat} {ls : Array Slot} {L L' : mm_L} {st st' : List mm_V} {h h' : mm_M}
/-- behind a call whose end is told by mm_Qc -/
theorem mm_after {a : Array Value} {rest st0 : List Value} {q : List mm_V × mm_M} (hr : va_Run p l e R s m args below meth c H locs cells slots 0 0 (F0 m pc ls st0) rest (mm_Qc D cy ad X q a) (mm_Ad ad)) (hS : va_S A s.heap H locs) (hA : ∀ x, mm_Ad ad x → A x)
    (kk : ∀ (H1 : Heap) (locs1 : List Loc), va_P D vwCl (mm_ws cy ad q.2) H1 → va_D (mm_Ad ad) (mm_ws cy ad q.2) → (∀ v ∈ q.1, mm_ok v) → mm_mok q.2 → mm_hs X q.2 → va_S A s.heap H1 locs1 → W p l e R s m args below meth c H1 locs1 cells slots Q (F0 m (pc + 3) ls ((q.1.map (mm_val ad)).head?.toList ++ rest))) : W p l e R s m args below meth c H locs cells slots Q (F0 m pc ls st0) := by
  intro T hT X'
  obtain ⟨v, st₀, t, T', L, h0, X2, hL, e1, e2, ⟨hv, ⟨hp, hd, ho1, ho2, ho3⟩, hz, hk⟩, st⟩ := hr T hT X'
  cases hv
  rw [h0] at hz hk
  obtain ⟨t2, a1, b1⟩ := kk T'.heap (locs ++ L) (by rw [e1]; exact hp) hd ho1 ho2 ho3
    ⟨Nat.le_trans hS.1 (by rw [e1]; exact hz), fun y h1 h2 => by rw [e1, hk y (Nat.lt_of_lt_of_le h1 hS.1) (fun z => h2 (hA y z))]; exact hS.2.1 y h1 h2, fun y hy => by
      rcases List.mem_append.mp hy with h | h
      · exact hS.2.2 y h
      · exact hA _ (hL y h)⟩ T' rfl X2
  exact ⟨t2, st t2 a1, b1⟩
theorem mm_blind {a : List mm_V} : FrameBlind (mm_Pc D cy ad X a h) := fun v U g mk z => ⟨z.1, z.2.1, z.2.2.1, va_K.moved (Vm.Alike.refl U.vm) z.2.2.2.1, mm_St_moved (Vm.Alike.refl U.vm) rfl z.2.2.2.2.1, mm_Sc_moved (Vm.Alike.refl U.vm) rfl z.2.2.2.2.2⟩
/-- the callee's start, at any state of the caller's -/
theorem mm_pre (hC : mm_Cx D cy ad A X K p s m args c) (hR : mm_Rp D cy ad A X s.heap h H locs) (hA : ∀ x, mm_Ad ad x → A x) (a : List mm_V) : ∀ U : State, U.heap = H → s.WarmedH U.vm → mm_Pc D cy ad X a h ((a.map (mm_val ad)).toArray) U := by
  intro U hU hW
  obtain ⟨hP, hD, hS, -, -⟩ := hR
  obtain ⟨-, -, -, -, -, hK, hSt, hSc⟩ := hC
  have keep : ∀ y : Nat, y < s.heap.size → ¬ A y → H[y]? = s.heap[y]? := hS.2.1
  refine ⟨rfl, by rw [hU]; exact hP, hD.weaken (fun k q hk _ => ?_), va_K.moved hW.alike hK, fun q hq => ?_, hSc.1, ?_⟩
  · unfold mm_ws at hk
    rw [List.getElem?_map] at hk
    cases hr : (List.range mm_no)[k]? with
    | none => rw [hr] at hk; cases hk
    | some i =>
      rw [hr] at hk
      cases hk
      exact ⟨i, List.mem_range.mp (List.mem_of_getElem? hr), rfl⟩
  · rw [hU]
    exact ⟨va_Z.moved hW.alike (((hSt q hq).1.kept keep).narrow hA), va_T.moved hW.alike (((hSt q hq).2.kept keep).narrow hA)⟩
  · rw [hU]
    exact va_T.moved hW.alike ((hSc.2.kept keep).narrow hA)
end SND
/-- the frame's own end: the answer stands on the stack, before its return -/
def mm_End (p : Program) (l : Launch) (e : Env) (R : Room) (s : State) (m : MethodId) (args : Array Value) (below : List Frame) (meth : Method) (c : Code) (cells slots : Nat) (Q : State → Prop) (D : va_G) (cy : Nat → ClassId) (ad : Nat → Nat) (A : Nat → Prop) (X : (Nat → Int) × Nat) (K : mm_K) (q : List mm_V × mm_M) : Prop :=
  ∀ (pc : Nat) (ins : Instr) (st : List mm_V) (H1 : Heap) (locs1 : List Loc) (ls1 : Array Slot), decode K.1 pc = .ok (ins, 1) → mm_ret ins K.2.2.1 st = some q.1 → st = q.1 → (∀ v ∈ st, mm_ok v) → mm_Rp D cy ad A X s.heap q.2 H1 locs1 → W p l e R s m args below meth c H1 locs1 cells slots Q (F0 m pc ls1 (st.map (mm_val ad)))
theorem mm_ret_st {ins : Instr} {k : Nat} {st v : List mm_V} (h : mm_ret ins k st = some v) : st = v ∧ mm_ln ins = 1 ∧ (∀ len, mm_lok ins len = true → len = 1) := by
  have l1 : ∀ {n : Nat} {len : Nat}, (len == n) = true → len = n := fun q => by simpa using q
  cases ins
  case ireturn =>
    change (match st with | [.inl x] => if k = 1 ∨ (k = 2 ∧ (x = 0 ∨ x = 1)) then some [vI x] else none | _ => none) = _ at h
    split at h
    · split at h
      · cases h; exact ⟨rfl, rfl, fun len q => l1 q⟩
      · cases h
    · cases h
  case lreturn =>
    change (match st with | [.inr (.inl x)] => if k = 3 then some [vL x] else none | _ => none) = _ at h
    split at h
    · split at h
      · cases h; exact ⟨rfl, rfl, fun len q => l1 q⟩
      · cases h
    · cases h
  case return_ =>
    change (match st with | [] => if k = 0 then some [] else none | _ => none) = _ at h
    split at h
    · split at h
      · cases h; exact ⟨rfl, rfl, fun len q => l1 q⟩
      · cases h
    · cases h
  all_goals cases h
theorem mm_head {ins : Instr} {k : Nat} {st v : List mm_V} (h : mm_ret ins k st = some v) (ad : Nat → Nat) : (v.map (mm_val ad)).head?.toList = v.map (mm_val ad) := by
  obtain ⟨rfl, -, -⟩ := mm_ret_st h
  cases ins
  case ireturn =>
    change (match st with | [.inl x] => if k = 1 ∨ (k = 2 ∧ (x = 0 ∨ x = 1)) then some [vI x] else none | _ => none) = _ at h
    split at h
    · rfl
    · cases h
  case lreturn =>
    change (match st with | [.inr (.inl x)] => if k = 3 then some [vL x] else none | _ => none) = _ at h
    split at h
    · rfl
    · cases h
  case return_ =>
    change (match st with | [] => if k = 0 then some [] else none | _ => none) = _ at h
    split at h
    · rfl
    · cases h
  all_goals cases h
theorem mm_ex_head (n : Nat) (ad : Nat → Nat) : ∀ K r pc L st h q, mm_ex n K r pc L st h = some q → (q.1.map (mm_val ad)).head?.toList = q.1.map (mm_val ad) := by
  induction n with
  | zero => intro K r pc L st h q e; cases e
  | succ n ih =>
    intro K r pc L st h q e
    rw [mm_ex_s] at e
    unfold mm_step at e
    split at e
    · rename_i ins len hd
      split at e
      · split at e
        · rename_i v hv
          cases e
          exact mm_head hv ad
        · split at e
          · split at e
            · rename_i k a rest hi hc
              dsimp only at e
              cases hf : mm_ex n (mm_k k) (mm_rk (mm_k k) a h) 0 (mm_ent (mm_k k).2.1 a) [] h with
              | none => rw [hf] at e; cases e
              | some w =>
                rw [hf] at e
                exact ih _ _ _ _ _ _ _ e
            · cases e
          · cases hs : mm_s K pc ins L st h with
            | none => rw [hs] at e; cases e
            | some w =>
              rw [hs] at e
              exact ih _ _ _ _ _ _ _ e
      · cases e
    · cases e
theorem mm_inv_spec {ins : Instr} {cl k : Nat} {st a rest : List mm_V} (h : mm_inv ins cl st = some (k, a, rest)) : (∃ (i n o : Nat) (a' : List mm_V), ins = .invokevirtual i ∧ mm_ml cl i = some (0, n, k) ∧ a = vR o :: a' ∧ st = a'.reverse ++ vR o :: rest ∧ a'.length = n ∧ mm_oc o = some (mm_k k).2.2.2.1 ∧ mm_ak o = 0) ∨ (∃ (i n : Nat), ins = .invokestatic i ∧ mm_ml cl i = some (1, n, k) ∧ st = a.reverse ++ rest ∧ a.length = n) := by
  cases ins
  case invokevirtual i =>
    change (match mm_ml cl i with
      | some (0, n, k) => (match st.drop n with | .inr (.inr o) :: rest => if mm_oc o = some (mm_k k).2.2.2.1 ∧ mm_ak o = 0 ∧ (st.take n).length = n then some (k, vR o :: (st.take n).reverse, rest) else none | _ => none)
      | _ => none) = _ at h
    split at h
    · rename_i n k' hm
      split at h
      · rename_i o rest' hdrop
        split at h
        · rename_i hc
          cases h
          refine Or.inl ⟨i, n, o, (st.take n).reverse, rfl, hm, rfl, ?_, by rw [List.length_reverse]; exact hc.2.2, hc.1, hc.2.1⟩
          rw [List.reverse_reverse, ← hdrop, List.take_append_drop]
        · cases h
      · cases h
    · cases h
  case invokestatic i =>
    change (match mm_ml cl i with
      | some (1, n, k) => if (st.take n).length = n then some (k, (st.take n).reverse, st.drop n) else none
      | _ => none) = _ at h
    split at h
    · rename_i n k' hm
      split at h
      · rename_i hc
        cases h
        refine Or.inr ⟨i, n, rfl, hm, ?_, by rw [List.length_reverse]; exact hc⟩
        rw [List.reverse_reverse, List.take_append_drop]
      · cases h
    · cases h
  all_goals cases h
def mm_SndAt (l : Launch) (D : va_G) (cy : Nat → ClassId) (ad : Nat → Nat) (X : (Nat → Int) × Nat) (n : Nat) : Prop :=
  ∀ (K : mm_K) (r pc : Nat) (L : mm_L) (st : List mm_V) (h : mm_M) (q : List mm_V × mm_M), mm_ex n K r pc L st h = some q →
    ∀ (p : Program) (e : Env) (R : Room) (s : State) (m : MethodId) (args : Array Value) (below : List Frame) (meth : Method) (c : Code) (H : Heap) (locs : List Loc) (cells slots : Nat) (Q : State → Prop) (A : Nat → Prop) (ls : Array Slot),
      mm_Cx D cy ad A X K p s m args c → mm_Rp D cy ad A X s.heap h H locs → mm_lc ad K.2.1 L ls → (∀ v ∈ st, mm_ok v) → (∀ x, mm_Ad ad x → A x) → (r + 1 ≤ R.frames ∧ 100 * (r + 1) ≤ R.locals ∧ cells ≤ R.cells ∧ slots ≤ R.slots) → mm_End p l e R s m args below meth c cells slots Q D cy ad A X K q →
      W p l e R s m args below meth c H locs cells slots Q (F0 m pc ls (st.map (mm_val ad)))
/-- a callee's contract, out of its run -/
theorem mm_met {l : Launch} {D : va_G} {cy : Nat → ClassId} {ad : Nat → Nat} {X : (Nat → Int) × Nat} {n : Nat} (ih : mm_SndAt l D cy ad X n) {K : mm_K} {na : Nat} (hg : mm_gd K na) {r : Nat} {a : List mm_V} {h : mm_M} {q : List mm_V × mm_M} (hq : mm_ex n K r 0 (mm_ent K.2.1 a) [] h = some q) (hfl : (mm_flat a).length ≤ K.2.1) (hok : ∀ v ∈ a, mm_ok v) (hm : mm_mok h) (hh : mm_hs X h) : Met l (mm_nm K) (mm_cw K :: mm_T) (mm_rm r) (mm_Pc D cy ad X a h) (mm_Qc D cy ad X q) 0 0 (mm_Ad ad) := by
  obtain ⟨-, hpl, hk4, hcls, -, -⟩ := hg
  refine Met.ofW (cc := K.1) (maxL := K.2.1) (ret := mm_rt K.2.2.1) hpl rfl ?_
  intro p e s m args below meth c s₁ B hml hv
  obtain ⟨rfl, hP, hD, hK, hSt, hSc⟩ := hv
  have hx := B.exec
  have hb := B.bytes
  have hr := B.returns
  have hts := atoms_spec (ws := mm_cw K :: mm_T) B.pre
  have hown : s.vm.findClass (mm_own K.2.2.2.1) = some m.cls := by rw [← hcls]; exact findClass_of_methodNamed B.named
  have hlocks := B.notSynchronized
  rw [lg_entry_eq]
  refine ih K r 0 (mm_ent K.2.1 a) [] h q hq p e (mm_rm r) s m _ below meth c s.heap [] 0 0 _ (mm_Ad ad) _ ⟨hx, hb, hml, hown, fun w hw => hts w (List.mem_cons_of_mem _ hw), hK, hSt, hSc⟩ ⟨hP, hD, va_S.rf, hm, hh⟩ (mm_ent_lc ad hfl hok) (fun v hv => by cases hv) (fun _ z => z) ⟨Nat.le_refl _, Nat.le_refl _, Nat.le_refl _, Nat.le_refl _⟩ ?_
  intro pc ins st H1 locs1 ls1 hd hret hst hok1 hR
  have hend : ∀ t : State, t.heap = H1 → mm_Qc D cy ad X q (a.map (mm_val ad)).toArray s (.returned ((q.1.map (mm_val ad)).head?)) t := fun t ht => ⟨rfl, ⟨by rw [ht]; exact hR.1, hR.2.1, by rw [← hst]; exact hok1, hR.2.2.2.1, hR.2.2.2.2⟩, hR.2.2.1.F ht⟩
  cases ins
  case ireturn =>
    change (match st with | [.inl x] => if K.2.2.1 = 1 ∨ (K.2.2.1 = 2 ∧ (x = 0 ∨ x = 1)) then some [vI x] else none | _ => none) = _ at hret
    split at hret
    · rename_i x
      split at hret
      · rename_i hc
        rcases hc with hc | ⟨hc, hx01⟩
        · rw [hc] at hr
          exact W.iret hx hb hr (fun t ht hW => by have := hend t ht; rw [← hst] at this; exact this) hR.2.2.1.2.2 hd
        · rw [hc] at hr
          exact W.zret hx hb hr (by rcases hx01 with rfl | rfl <;> decide +kernel) (fun t ht hW => by have := hend t ht; rw [← hst] at this; exact this) hR.2.2.1.2.2 hd
      · cases hret
    · cases hret
  case lreturn =>
    change (match st with | [.inr (.inl x)] => if K.2.2.1 = 3 then some [vL x] else none | _ => none) = _ at hret
    split at hret
    · rename_i x
      split at hret
      · rename_i hc
        rw [hc] at hr
        exact W.lret hx hb hr (fun t ht hW => by have := hend t ht; rw [← hst] at this; exact this) hR.2.2.1.2.2 hd
      · cases hret
    · cases hret
  case return_ =>
    change (match st with | [] => if K.2.2.1 = 0 then some [] else none | _ => none) = _ at hret
    split at hret
    · split at hret
      · rename_i hc
        rw [hc] at hr
        exact W.vret hx hb hr (fun t ht hW => by have := hend t ht; rw [← hst] at this; exact this) hR.2.2.1.2.2 hd
      · cases hret
    · cases hret
  all_goals cases hret
theorem mm_sound (l : Launch) (D : va_G) (cy : Nat → ClassId) (ad : Nat → Nat) (X : (Nat → Int) × Nat) : ∀ n, mm_SndAt l D cy ad X n := by
  intro n
  induction n with
  | zero => intro K r pc L st h q e; cases e
  | succ n ih =>
    intro K r pc L st h q hq p e R s m args below meth c H locs cells slots Q A ls hC hR hL hst hA hroom hE
    rw [mm_ex_s] at hq
    unfold mm_step at hq
    split at hq
    · rename_i ins len hd
      by_cases hlk : mm_lok ins len = true
      · rw [if_pos hlk] at hq
        cases hv : mm_ret ins K.2.2.1 st with
        | some v =>
          rw [hv] at hq
          cases hq
          obtain ⟨h1, h2, h3⟩ := mm_ret_st hv
          have e1 := h3 len hlk
          subst e1
          exact hE pc ins st H locs ls hd hv h1 hst hR
        | none =>
          rw [hv] at hq
          dsimp only at hq
          cases hi : mm_inv ins K.2.2.2.1 st with
          | none =>
            rw [hi] at hq
            dsimp only at hq
            cases hs : mm_s K pc ins L st h with
            | none => rw [hs] at hq; cases hq
            | some w =>
              rw [hs] at hq
              obtain ⟨pc', L', st', h'⟩ := w
              refine so_s hd hlk hs hC hR hL hst ⟨by omega, by omega, hroom.2.2⟩ ?_
              intro H1 locs1 ls1 hR1 hL1 hst1
              exact ih K r pc' L' st' h' q hq p e R s m args below meth c H1 locs1 cells slots Q A ls1 hC hR1 hL1 hst1 hA hroom hE
          | some z =>
            obtain ⟨k, a, rest⟩ := z
            rw [hi] at hq
            dsimp only at hq
            split at hq
            · rename_i hc
              obtain ⟨c1, c2, c3⟩ := hc
              cases hf : mm_ex n (mm_k k) (mm_rk (mm_k k) a h) 0 (mm_ent (mm_k k).2.1 a) [] h with
              | none => rw [hf] at hq; cases hq
              | some w =>
                rw [hf] at hq
                have hhd := mm_ex_head n ad _ _ _ _ _ _ _ hf
                have hcs := mm_catsum ad rest
                obtain ⟨r1, r2, r3, r4⟩ := hroom
                have hC0 := hC
                obtain ⟨hx, hb, hml, hown, hts, hK, -, -⟩ := hC0
                have fin : (∀ v ∈ rest, mm_ok v) → va_Run p l e R s m args below meth c H locs cells slots 0 0 (F0 m pc ls (st.map (mm_val ad))) (rest.map (mm_val ad)) (mm_Qc D cy ad X w (a.map (mm_val ad)).toArray) (mm_Ad ad) → W p l e R s m args below meth c H locs cells slots Q (F0 m pc ls (st.map (mm_val ad))) := by
                  intro hrest hrun
                  refine mm_after hrun hR.2.2.1 hA ?_
                  intro H1 locs1 hP1 hD1 ho1 ho2 ho3 hS1
                  rw [hhd, ← List.map_append]
                  exact ih K r (pc + 3) L (w.1 ++ rest) w.2 q hq p e R s m args below meth c H1 locs1 cells slots Q A ls hC ⟨hP1, hD1.weaken (fun _ _ _ z => hA _ z), hS1, ho2, ho3⟩ hL (fun v hv => (List.mem_append.mp hv).elim (ho1 v) (hrest v)) hA ⟨r1, r2, r3, r4⟩ hE
                have l3 : len = 3 := by
                  rcases mm_inv_spec hi with ⟨i, na, o, a', rfl, -⟩ | ⟨i, na, rfl, -⟩
                  · simpa [mm_lok, mm_ln] using hlk
                  · simpa [mm_lok, mm_ln] using hlk
                subst l3
                rcases mm_inv_spec hi with ⟨i, na, o, a', rfl, hml0, rfl, rfl, hna, hoc, hak⟩ | ⟨i, na, rfl, hml1, rfl, hna⟩
                · obtain ⟨hg, w1, w2, w3⟩ := mm_ml_0 hml0
                  have hok : ∀ v ∈ vR o :: a', mm_ok v := mm_ok_c trivial (fun v hv => hst v (List.mem_append_left _ (List.mem_reverse.mpr hv)))
                  have hM := mm_met ih hg hf c3 hok hR.2.2.2.1 hR.2.2.2.2
                  obtain ⟨C, T, N, hcl, hlt, hob⟩ := mm_oc_spec hoc hak
                  have hws := mm_ws_get (cy := cy) (ad := ad) (h := h) hlt
                  rw [mm_ce_obj hob] at hws
                  obtain ⟨cell, q1, q2, q3⟩ := va_recv hK hR.1 hcl hws
                  have hCe : C = (mm_nm (mm_k k)).cls := by rw [(mm_cls_spec hcl).2.1, hg.2.2.2.1]
                  refine fin (fun v hv => hst v (List.mem_append_right _ (List.mem_cons_of_mem _ hv))) ?_
                  refine va_runV (As := a'.map (mm_val ad)) (b := ad o) (rest := rest.map (mm_val ad)) (n := na) (nL := K.2.1) (Ts := mm_T) (own := mm_own K.2.2.2.1) (index := i) (C := (mm_nm (mm_k k)).cls) ⟨hx, hb, hml, hown, hts⟩ hM (cwV na hts ?_ rfl rfl rfl ⟨rfl, hg.1⟩ ⟨?_, ?_⟩) ⟨mm_blind, ⟨cell, q1, q2, by rw [← hCe]; exact q3⟩, ?_⟩ rfl (by rw [List.length_map]; exact hna) hL.2.1 ?_ ?_ hd ⟨r3, r4⟩
                  · intro w hw
                    have hin : w ∈ mm_T := by
                      rcases List.mem_append.mp hw with z | z
                      · rcases List.mem_cons.mp z with rfl | z
                        · exact w1
                        · rcases List.mem_cons.mp z with rfl | z
                          · exact w2
                          · rcases List.mem_cons.mp z with rfl | z
                            · exact w3
                            · rcases List.mem_cons.mp z with rfl | z
                              · exact hg.2.2.2.2.2
                              · cases z
                      · rcases List.mem_cons.mp z with rfl | z
                        · exact hg.2.2.2.2.1
                        · exact z
                    exact mm_good w hin
                  · show mm_rk (mm_k k) (vR o :: a') h + 1 + 1 ≤ R.frames
                    omega
                  · show 8 + ((mm_k k).2.1 + 11) + 100 * (mm_rk (mm_k k) (vR o :: a') h + 1) ≤ R.locals
                    have : (mm_k k).2.1 ≤ 60 := by
                      have hch : ∀ K ∈ mm_kT, K.2.1 ≤ 60 := by decide +kernel
                      by_cases hkl : k < mm_kT.length
                      · refine hch _ ?_
                        unfold mm_k
                        rw [List.getD_eq_getElem?_getD, List.getElem?_eq_getElem hkl]
                        exact List.getElem_mem _
                      · unfold mm_k
                        rw [List.getD_eq_getElem?_getD, List.getElem?_eq_none (by omega)]
                        decide +kernel
                    omega
                  · intro U hU hW
                    exact mm_pre hC hR hA (vR o :: a') U hU hW
                  · show (a'.reverse ++ vR o :: rest).map (mm_val ad) = _
                    rw [List.map_append, List.map_reverse]
                    rfl
                  · show 2 * 0 + _ ≤ 8
                    omega
                · obtain ⟨hg, w1, w2⟩ := mm_ml_1 hml1
                  have hok : ∀ v ∈ a, mm_ok v := fun v hv => hst v (List.mem_append_left _ (List.mem_reverse.mpr hv))
                  have hM := mm_met ih hg hf c3 hok hR.2.2.2.1 hR.2.2.2.2
                  refine fin (fun v hv => hst v (List.mem_append_right _ hv)) ?_
                  refine va_runS (As := a.map (mm_val ad)) (rest := rest.map (mm_val ad)) (n := na) (nL := K.2.1) (Ts := mm_T) (own := mm_own K.2.2.2.1) (index := i) ⟨hx, hb, hml, hown, hts⟩ hM (va_cwS na hts ?_ rfl rfl rfl hg.1 ⟨?_, ?_⟩) ⟨mm_blind, ?_⟩ rfl (by rw [List.length_map]; exact hna) hL.2.1 ?_ ?_ hd ⟨r3, r4⟩
                  · intro w hw
                    have hin : w ∈ mm_T := by
                      rcases List.mem_append.mp hw with z | z
                      · rcases List.mem_cons.mp z with rfl | z
                        · exact w1
                        · rcases List.mem_cons.mp z with rfl | z
                          · exact w2
                          · rcases List.mem_cons.mp z with rfl | z
                            · exact hg.2.2.2.2.2
                            · cases z
                      · rcases List.mem_cons.mp z with rfl | z
                        · exact hg.2.2.2.2.1
                        · exact z
                    exact mm_good w hin
                  · show mm_rk (mm_k k) a h + 1 + 1 ≤ R.frames
                    omega
                  · show 8 + ((mm_k k).2.1 + 11) + 100 * (mm_rk (mm_k k) a h + 1) ≤ R.locals
                    have : (mm_k k).2.1 ≤ 60 := by
                      have hch : ∀ K ∈ mm_kT, K.2.1 ≤ 60 := by decide +kernel
                      by_cases hkl : k < mm_kT.length
                      · refine hch _ ?_
                        unfold mm_k
                        rw [List.getD_eq_getElem?_getD, List.getElem?_eq_getElem hkl]
                        exact List.getElem_mem _
                      · unfold mm_k
                        rw [List.getD_eq_getElem?_getD, List.getElem?_eq_none (by omega)]
                        decide +kernel
                    omega
                  · intro U hU hW
                    exact mm_pre hC hR hA a U hU hW
                  · show (a.reverse ++ rest).map (mm_val ad) = _
                    rw [List.map_append, List.map_reverse]
                  · show 2 * 0 + _ ≤ 8
                    omega
            · cases hq
      · rw [if_neg hlk] at hq; cases hq
    · cases hq
