/-! the mini machine's picture in the machine's heap -/
def mm_val (ad : Nat → Nat) (v : mm_V) : Value := match v with | .inl x => .int (Int32.ofInt x) | .inr (.inl x) => .long (Int64.ofInt x) | .inr (.inr n) => .ref (ad n)
def mm_ok (v : mm_V) : Prop := match v with | .inl x => mm_r32 x | .inr (.inl x) => mm_r64 x | .inr (.inr _) => True
def mm_lc (ad : Nat → Nat) (n : Nat) (L : mm_L) (ls : Array Slot) : Prop := L.length = n ∧ ls.size = n ∧ lv_wf ls ∧ ∀ (i : Nat) (v : mm_V), L[i]? = some (some v) → ls[i]? = some (.val (mm_val ad v)) ∧ mm_ok v
def mm_lv (ad : Nat → Nat) (L : mm_L) : List (Nat × Value) := (List.range L.length).filterMap (fun i => match L[i]? with | some (some v) => some (i, mm_val ad v) | _ => none)
theorem mm_lv_in {ad : Nat → Nat} {L : mm_L} {i : Nat} {w : Value} : (i, w) ∈ mm_lv ad L ↔ ∃ v, L[i]? = some (some v) ∧ w = mm_val ad v := by
  unfold mm_lv
  rw [List.mem_filterMap]
  constructor
  · rintro ⟨j, hj, e⟩
    split at e
    · rename_i v hv
      cases e
      exact ⟨v, hv, rfl⟩
    · cases e
  · rintro ⟨v, hv, rfl⟩
    refine ⟨i, List.mem_range.mpr (List.getElem?_eq_some_iff.mp hv).1, ?_⟩
    rw [hv]
theorem mm_lc_has {ad : Nat → Nat} {n : Nat} {L : mm_L} {ls : Array Slot} (h : mm_lc ad n L ls) : lv_has ls n (mm_lv ad L) := by
  refine ⟨h.2.1, h.2.2.1, fun q hq => ?_⟩
  obtain ⟨v, hv, e⟩ := mm_lv_in.mp hq
  rw [e]
  exact (h.2.2.2 _ v hv).1
theorem mm_cat (ad : Nat → Nat) (v : mm_V) : (mm_val ad v).category = 2 ↔ mm_isL (some (some v)) = true := by
  obtain x | x | x := v <;> simp [mm_val, mm_isL, Value.category]
theorem mm_kill_len (L : mm_L) (i : Nat) : (mm_kill L i).length = L.length := by
  unfold mm_kill
  cases i with
  | zero => rfl
  | succ j => dsimp only; split <;> simp
theorem mm_kill_get {L : mm_L} {i j : Nat} {w : mm_V} (h : (mm_kill L i)[j]? = some (some w)) : L[j]? = some (some w) ∧ ¬ (j + 1 = i ∧ mm_isL (some (some w)) = true) := by
  unfold mm_kill at h
  cases i with
  | zero => exact ⟨h, fun z => by omega⟩
  | succ k =>
    dsimp only at h
    by_cases hl : mm_isL L[k]? = true
    · rw [if_pos hl, List.getElem?_set] at h
      by_cases hk : k = j
      · rw [if_pos hk] at h
        split at h <;> cases h
      · rw [if_neg hk] at h
        exact ⟨h, fun z => by omega⟩
    · rw [if_neg hl] at h
      refine ⟨h, fun z => hl ?_⟩
      have : k = j := by omega
      subst this
      rw [h]
      exact z.2
theorem mm_lc_sto {ad : Nat → Nat} {n : Nat} {L L' : mm_L} {ls ls' : Array Slot} {i : Nat} {v : mm_V} (h : mm_lc ad n L ls) (e : mm_sto L i v = some L') (hv : mm_ok v) (h' : lv_has ls' n ((i, mm_val ad v) :: (mm_lv ad L).filter (fun q => !(q.1 == i) && !(q.1 + 1 == i && q.2.category == 2)))) : mm_lc ad n L' ls' := by
  unfold mm_sto at e
  split at e
  · rename_i hi
    cases e
    refine ⟨by simp [mm_kill_len, h.1], h'.1, h'.2.1, fun j w hj => ?_⟩
    rw [List.getElem?_set] at hj
    by_cases hij : i = j
    · rw [if_pos hij] at hj
      split at hj
      · cases hj
        subst hij
        exact ⟨h'.2.2 _ List.mem_cons_self, hv⟩
      · cases hj
    · rw [if_neg hij] at hj
      obtain ⟨a1, a2⟩ := mm_kill_get hj
      refine ⟨h'.2.2 (j, mm_val ad w) (List.mem_cons_of_mem _ (List.mem_filter.mpr ⟨mm_lv_in.mpr ⟨w, a1, rfl⟩, ?_⟩)), (h.2.2.2 j w a1).2⟩
      simp only [Bool.and_eq_true, Bool.not_eq_true', beq_eq_false_iff_ne, ne_eq, Bool.and_eq_false_iff]
      refine ⟨fun z => hij z.symm, ?_⟩
      by_cases z : j + 1 = i
      · exact Or.inr (fun q => a2 ⟨z, (mm_cat ad w).mp q⟩)
      · exact Or.inl z
  · cases e
theorem mm_lc_stoL {ad : Nat → Nat} {n : Nat} {L L' : mm_L} {ls ls' : Array Slot} {i : Nat} {v : mm_V} (h : mm_lc ad n L ls) (e : mm_stoL L i v = some L') (hv : mm_ok v) (h' : lv_has ls' n ((i, mm_val ad v) :: (mm_lv ad L).filter (fun q => !(q.1 == i) && (!(q.1 == i + 1) && !(q.1 + 1 == i && q.2.category == 2))))) : mm_lc ad n L' ls' := by
  unfold mm_stoL at e
  split at e
  · rename_i hi
    cases e
    refine ⟨by simp [mm_kill_len, h.1], h'.1, h'.2.1, fun j w hj => ?_⟩
    rw [List.getElem?_set] at hj
    by_cases hij1 : i + 1 = j
    · rw [if_pos hij1] at hj
      split at hj <;> cases hj
    · rw [if_neg hij1, List.getElem?_set] at hj
      by_cases hij : i = j
      · rw [if_pos hij] at hj
        split at hj
        · cases hj
          subst hij
          exact ⟨h'.2.2 _ List.mem_cons_self, hv⟩
        · cases hj
      · rw [if_neg hij] at hj
        obtain ⟨a1, a2⟩ := mm_kill_get hj
        refine ⟨h'.2.2 (j, mm_val ad w) (List.mem_cons_of_mem _ (List.mem_filter.mpr ⟨mm_lv_in.mpr ⟨w, a1, rfl⟩, ?_⟩)), (h.2.2.2 j w a1).2⟩
        simp only [Bool.and_eq_true, Bool.not_eq_true', beq_eq_false_iff_ne, ne_eq, Bool.and_eq_false_iff]
        refine ⟨fun z => hij z.symm, fun z => hij1 z.symm, ?_⟩
        by_cases z : j + 1 = i
        · exact Or.inr (fun q => a2 ⟨z, (mm_cat ad w).mp q⟩)
        · exact Or.inl z
  · cases e
theorem mm_sto_lt {L L' : mm_L} {i : Nat} {v : mm_V} (e : mm_sto L i v = some L') : i < L.length := by
  unfold mm_sto at e
  split at e
  · assumption
  · cases e
theorem mm_stoL_lt {L L' : mm_L} {i : Nat} {v : mm_V} (e : mm_stoL L i v = some L') : i + 1 < L.length := by
  unfold mm_stoL at e
  split at e
  · assumption
  · cases e
/-- entry: the arguments, then nothing -/
theorem mm_flat_cons (v : mm_V) (a : List mm_V) : mm_flat (v :: a) = (if mm_isL (some (some v)) = true then [some v, none] else [some v]) ++ mm_flat a := by
  obtain x | x | x := v <;> rfl
theorem mm_flat_sl (ad : Nat → Nat) (a : List mm_V) : (mm_flat a).length = (lg_sl (a.map (mm_val ad))).length := by
  induction a with
  | nil => rfl
  | cons v a ih =>
    rw [mm_flat_cons, List.map_cons]
    show _ = ((if (mm_val ad v).category = 2 then [Slot.val (mm_val ad v), Slot.second] else [Slot.val (mm_val ad v)]) ++ lg_sl (a.map (mm_val ad))).length
    rw [List.length_append, List.length_append, ih]
    congr 1
    by_cases h : mm_isL (some (some v)) = true
    · rw [if_pos h, if_pos ((mm_cat ad v).mpr h)]; rfl
    · rw [if_neg h, if_neg (fun q => h ((mm_cat ad v).mp q))]; rfl
theorem mm_flat_args (ad : Nat → Nat) (a : List mm_V) : ∀ (i j : Nat) (v : mm_V), (mm_flat a)[j]? = some (some v) → (i + j, mm_val ad v) ∈ lv_args i (a.map (mm_val ad)) ∧ v ∈ a := by
  induction a with
  | nil => intro i j v h; simp [mm_flat] at h
  | cons w a ih =>
    intro i j v h
    rw [mm_flat_cons] at h
    rw [List.map_cons]
    show (i + j, mm_val ad v) ∈ (i, mm_val ad w) :: lv_args (if (mm_val ad w).category = 2 then i + 2 else i + 1) (a.map (mm_val ad)) ∧ _
    by_cases hl : mm_isL (some (some w)) = true
    · rw [if_pos hl] at h
      rw [if_pos ((mm_cat ad w).mpr hl)]
      match j, h with
      | 0, h => cases h; exact ⟨List.mem_cons_self, List.mem_cons_self⟩
      | 1, h => cases h
      | j + 2, h =>
        obtain ⟨h1, h2⟩ := ih (i + 2) j v h
        exact ⟨List.mem_cons_of_mem _ (by rw [show i + (j + 2) = i + 2 + j from by omega]; exact h1), List.mem_cons_of_mem _ h2⟩
    · rw [if_neg hl] at h
      rw [if_neg (fun q => hl ((mm_cat ad w).mp q))]
      match j, h with
      | 0, h => cases h; exact ⟨List.mem_cons_self, List.mem_cons_self⟩
      | j + 1, h =>
        obtain ⟨h1, h2⟩ := ih (i + 1) j v h
        exact ⟨List.mem_cons_of_mem _ (by rw [show i + (j + 1) = i + 1 + j from by omega]; exact h1), List.mem_cons_of_mem _ h2⟩
theorem mm_ent_lc (ad : Nat → Nat) {n : Nat} {a : List mm_V} (h : (mm_flat a).length ≤ n) (hok : ∀ v ∈ a, mm_ok v) : mm_lc ad n (mm_ent n a) ((lg_sl (a.map (mm_val ad)) ++ List.replicate (n - (lg_sl (a.map (mm_val ad))).length) Slot.unset).toArray) := by
  obtain ⟨h1, h2, h3⟩ := lv_entry (a.map (mm_val ad)) (n := n) (by rw [← mm_flat_sl]; exact h)
  refine ⟨by unfold mm_ent; simp; omega, h1, h2, fun i v hi => ?_⟩
  unfold mm_ent at hi
  by_cases hl : i < (mm_flat a).length
  · rw [List.getElem?_append_left hl] at hi
    obtain ⟨q1, q2⟩ := mm_flat_args ad a 0 i v hi
    rw [Nat.zero_add] at q1
    exact ⟨h3 _ q1, hok v q2⟩
  · rw [List.getElem?_append_right (by omega), List.getElem?_replicate] at hi
    split at hi <;> cases hi
/-! the cells -/
def mm_fv (ad : Nat → Nat) (f : Int → Int) (c ci k : Nat) : Value := match mm_fk ci k with
  | 2 => .ref (ad (mm_rf c k))
  | 3 => .ref (ad (f k).toNat)
  | _ => .int (Int32.ofInt (f k))
def mm_ce (cy : Nat → ClassId) (ad : Nat → Nat) (f : Int → Int) (c : Nat) : va_E := match mm_obT.getD c (9, 0, 0) with
  | (0, ci, n) => .inr (ci, (List.range n).map (mm_fv ad f c ci))
  | (2, _, n) => .inl (cy 2, n, .inr (.inl (fun j => Int64.ofInt (f j))))
  | (k, _, n) => .inl (cy k, n, .inl (fun j => Int32.ofInt (f j)))
def mm_ws (cy : Nat → ClassId) (ad : Nat → Nat) (h : mm_M) : va_W := (List.range mm_no).map (fun c => (ad c, mm_ce cy ad (h c) c))
abbrev mm_tys (cy : Nat → ClassId) : List (ClassId × FieldType) := [(cy 1, .int), (cy 2, .long), (cy 3, .byte), (cy 4, .short)]
def mm_mok (h : mm_M) : Prop := ∀ c i, if mm_ak c = 2 then mm_r64 (h c i) else mm_r32 (h c i)
def mm_hs (X : (Nat → Int) × Nat) (h : mm_M) : Prop := h 110 (-1) = X.2 ∧ ∀ i : Nat, i < X.2 → h 110 i = X.1 i
def mm_St (ad : Nat → Nat) (A : Nat → Prop) (U : State) : Prop := ∀ q ∈ mm_statT, va_Z q.2.1 q.2.2.1 "[I" (.ref (ad q.1)) A U U.heap ∧ va_T .int (ad q.1) q.2.2.2 (fun i => .int (Int32.ofInt (mm_ct q.1 i))) A U U.heap
def mm_Sc (ad : Nat → Nat) (A : Nat → Prop) (X : (Nat → Int) × Nat) (U : State) : Prop := X.2 < 2147483648 ∧ va_T .int (ad 110) X.2 (fun i => .int (Int32.ofInt (X.1 i))) A U U.heap
def mm_Rp (D : va_G) (cy : Nat → ClassId) (ad : Nat → Nat) (A : Nat → Prop) (X : (Nat → Int) × Nat) (H0 : Heap) (h : mm_M) (H : Heap) (locs : List Loc) : Prop := va_P D vwCl (mm_ws cy ad h) H ∧ va_D A (mm_ws cy ad h) ∧ va_S A H0 H locs ∧ mm_mok h ∧ mm_hs X h
def mm_Cx (D : va_G) (cy : Nat → ClassId) (ad : Nat → Nat) (A : Nat → Prop) (X : (Nat → Int) × Nat) (K : mm_K) (p : Program) (s : State) (m : MethodId) (args : Array Value) (c : Code) : Prop :=
  p.tables.exec = Jvm.exec ∧ c.code = K.1 ∧ c.maxLocals = K.2.1 ∧ s.vm.findClass (mm_own K.2.2.2.1) = some m.cls ∧ (∀ w ∈ mm_T, w.before args s = true) ∧ va_K D vwCl (mm_tys cy) s ∧ mm_St ad A s ∧ mm_Sc ad A X s
theorem mm_obT_len : mm_obT.length = mm_no := by decide +kernel
theorem mm_obchk : (List.range mm_no).all (fun c => match mm_obT.getD c (9, 0, 0) with | (0, ci, n) => (match vwCl[ci]? with | some q => q.2.2 == n | none => false) | (k, _, _) => k == 1 || k == 2 || k == 3 || k == 4) = true := by decide +kernel
theorem mm_ak_lt {c : Nat} (h : mm_ak c < 5) : c < mm_no ∧ mm_ak c = (mm_obT.getD c (9, 0, 0)).1 ∧ mm_an c = ((mm_obT.getD c (9, 0, 0)).2.2 : Nat) := by
  unfold mm_ak at h ⊢
  unfold mm_an mm_no
  by_cases hc : c < 83
  · rw [if_pos hc, if_pos hc]; exact ⟨hc, rfl, rfl⟩
  · rw [if_neg hc] at h
    exfalso
    split at h
    · omega
    · split at h <;> omega
theorem mm_oc_spec {c ci : Nat} (h : mm_oc c = some ci) (h0 : mm_ak c = 0) : ∃ (C : String) (T : u_T) (N : Nat), vwCl[ci]? = some (C, T, N) ∧ c < mm_no ∧ mm_obT.getD c (9, 0, 0) = (0, ci, N) := by
  obtain ⟨h1, h2, -⟩ := mm_ak_lt (c := c) (by omega)
  have h3 := List.all_eq_true.mp mm_obchk c (List.mem_range.mpr h1)
  unfold mm_oc at h
  have hlt : c < mm_obT.length := by rw [mm_obT_len]; exact h1
  have e : mm_obT[c]? = some (mm_obT.getD c (9, 0, 0)) := by rw [List.getD_eq_getElem?_getD, List.getElem?_eq_getElem hlt]; rfl
  rw [e] at h
  rw [h0] at h2
  generalize mm_obT.getD c (9, 0, 0) = q at h h2 h3 ⊢
  obtain ⟨k, ci', n⟩ := q
  dsimp only at h2
  subst h2
  cases h
  change (match vwCl[ci]? with | some q => q.2.2 == n | none => false) = true at h3
  cases hq : vwCl[ci]? with
  | none => rw [hq] at h3; cases h3
  | some q =>
    rw [hq] at h3
    obtain ⟨C, T, N⟩ := q
    have : N = n := by simpa using h3
    subst this
    exact ⟨C, T, N, rfl, h1, rfl⟩
theorem mm_ws_get {cy : Nat → ClassId} {ad : Nat → Nat} {h : mm_M} {c : Nat} (hc : c < mm_no) : (mm_ws cy ad h)[c]? = some (ad c, mm_ce cy ad (h c) c) := by
  unfold mm_ws
  rw [List.getElem?_map, List.getElem?_range hc]
  rfl
theorem mm_ws_set {cy : Nat → ClassId} {ad : Nat → Nat} {h h' : mm_M} {c : Nat} {e : va_E} (hc : c < mm_no) (he : mm_ce cy ad (h' c) c = e) (ho : ∀ c', c' ≠ c → h' c' = h c') : (mm_ws cy ad h).set c (ad c, e) = mm_ws cy ad h' := by
  refine List.ext_getElem? fun j => ?_
  rw [List.getElem?_set]
  by_cases hj : c = j
  · subst hj
    rw [if_pos rfl, mm_ws_get hc, he, if_pos (by unfold mm_ws; simpa using hc)]
  · rw [if_neg hj]
    unfold mm_ws
    rw [List.getElem?_map, List.getElem?_map]
    cases hr : (List.range mm_no)[j]? with
    | none => rfl
    | some i =>
      have : i = j := by
        obtain ⟨q1, q2⟩ := List.getElem?_eq_some_iff.mp hr
        rw [← q2]; simp
      subst this
      show some (ad i, mm_ce cy ad (h i) i) = some (ad i, mm_ce cy ad (h' i) i)
      rw [ho i (fun z => hj z.symm)]
theorem mm_ce_obj {cy : Nat → ClassId} {ad : Nat → Nat} {f : Int → Int} {c ci n : Nat} (h : mm_obT.getD c (9, 0, 0) = (0, ci, n)) : mm_ce cy ad f c = .inr (ci, (List.range n).map (mm_fv ad f c ci)) := by
  unfold mm_ce; rw [h]; rfl
theorem mm_ce_long {cy : Nat → ClassId} {ad : Nat → Nat} {f : Int → Int} {c : Nat} (h : mm_ak c = 2) : mm_ce cy ad f c = .inl (cy 2, (mm_obT.getD c (9, 0, 0)).2.2, .inr (.inl (fun j => Int64.ofInt (f j)))) := by
  obtain ⟨h1, h2, -⟩ := mm_ak_lt (c := c) (by omega)
  rw [h] at h2
  unfold mm_ce
  generalize mm_obT.getD c (9, 0, 0) = q at h2 ⊢
  obtain ⟨k, a, n⟩ := q
  dsimp only at h2
  subst h2
  rfl
theorem mm_ce_int {cy : Nat → ClassId} {ad : Nat → Nat} {f : Int → Int} {c k : Nat} (h : mm_ak c = k) (hk : k = 1 ∨ k = 3 ∨ k = 4) : mm_ce cy ad f c = .inl (cy k, (mm_obT.getD c (9, 0, 0)).2.2, .inl (fun j => Int32.ofInt (f j))) := by
  obtain ⟨h1, h2, -⟩ := mm_ak_lt (c := c) (by omega)
  rw [h] at h2
  unfold mm_ce
  generalize mm_obT.getD c (9, 0, 0) = q at h2 ⊢
  obtain ⟨k', a, n⟩ := q
  dsimp only at h2
  subst h2
  rcases hk with rfl | rfl | rfl <;> rfl
