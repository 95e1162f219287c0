/-! one step of the mini machine is a step of the machine -/
section SO
variable {p : Program} {l : Launch} {e : Env} {R : Room} {s : State} {m : MethodId} {args : Array Value} {below : List Frame} {meth : Method} {c : Code} {H : Heap} {locs : List Loc} {cells slots : Nat} {Q : State → Prop}
variable {D : va_G} {cy : Nat → ClassId} {ad : Nat → Nat} {A : Nat → Prop} {X : (Nat → Int) × Nat} {K : mm_K} {pc len pc' pc1 : Nat} {ls : Array Slot} {L L' : mm_L} {st st' : List mm_V} {h h' : mm_M}
abbrev mm_KK (p : Program) (l : Launch) (e : Env) (R : Room) (s : State) (m : MethodId) (args : Array Value) (below : List Frame) (meth : Method) (c : Code) (cells slots : Nat) (Q : State → Prop) (D : va_G) (cy : Nat → ClassId) (ad : Nat → Nat) (A : Nat → Prop) (X : (Nat → Int) × Nat) (n pc' : Nat) (L' : mm_L) (st' : List mm_V) (h' : mm_M) : Prop :=
  ∀ (H1 : Heap) (locs1 : List Loc) (ls1 : Array Slot), mm_Rp D cy ad A X s.heap h' H1 locs1 → mm_lc ad n L' ls1 → (∀ v ∈ st', mm_ok v) → W p l e R s m args below meth c H1 locs1 cells slots Q (F0 m pc' ls1 (st'.map (mm_val ad)))
theorem mm_ok_c {v : mm_V} {st : List mm_V} (hv : mm_ok v) (h : ∀ w ∈ st, mm_ok w) : ∀ w ∈ v :: st, mm_ok w := List.forall_mem_cons.mpr ⟨hv, h⟩
theorem mm_ok_t {v : mm_V} {st : List mm_V} (h : ∀ w ∈ v :: st, mm_ok w) : ∀ w ∈ st, mm_ok w := (List.forall_mem_cons.mp h).2
theorem mm_ok_h {v : mm_V} {st : List mm_V} (h : ∀ w ∈ v :: st, mm_ok w) : mm_ok v := (List.forall_mem_cons.mp h).1
theorem so_2 {f : Int → Int → Option Int} (hs : mm_2 pc1 L st h f = some (pc', L', st', h')) (hR : mm_Rp D cy ad A X s.heap h H locs) (hL : mm_lc ad K.2.1 L ls) (hst : ∀ v ∈ st, mm_ok v)
    (rr : ∀ (x y z : Int) (rest : List Value), mm_r32 x → mm_r32 y → f x y = some z → mm_r32 z ∧ (W p l e R s m args below meth c H locs cells slots Q (F0 m pc1 ls (.int (Int32.ofInt z) :: rest)) → W p l e R s m args below meth c H locs cells slots Q (F0 m pc ls (.int (Int32.ofInt y) :: .int (Int32.ofInt x) :: rest))))
    (kk : mm_KK p l e R s m args below meth c cells slots Q D cy ad A X K.2.1 pc' L' st' h') : W p l e R s m args below meth c H locs cells slots Q (F0 m pc ls (st.map (mm_val ad))) := by
  unfold mm_2 at hs
  split at hs
  · rename_i y x st0
    cases hf : f x y with
    | none => rw [hf] at hs; cases hs
    | some z =>
      rw [hf] at hs
      cases hs
      obtain ⟨hz, k⟩ := rr x y z (st0.map (mm_val ad)) (mm_ok_h (mm_ok_t hst)) (mm_ok_h hst) hf
      exact k (kk H locs ls hR hL (mm_ok_c hz (mm_ok_t (mm_ok_t hst))))
  · cases hs
theorem so_3 {f : Int → Int → Option mm_V} (hs : mm_3 pc1 L st h f = some (pc', L', st', h')) (hR : mm_Rp D cy ad A X s.heap h H locs) (hL : mm_lc ad K.2.1 L ls) (hst : ∀ v ∈ st, mm_ok v)
    (rr : ∀ (x y : Int) (z : mm_V) (rest : List Value), mm_r64 x → mm_r64 y → f x y = some z → mm_ok z ∧ (W p l e R s m args below meth c H locs cells slots Q (F0 m pc1 ls (mm_val ad z :: rest)) → W p l e R s m args below meth c H locs cells slots Q (F0 m pc ls (.long (Int64.ofInt y) :: .long (Int64.ofInt x) :: rest))))
    (kk : mm_KK p l e R s m args below meth c cells slots Q D cy ad A X K.2.1 pc' L' st' h') : W p l e R s m args below meth c H locs cells slots Q (F0 m pc ls (st.map (mm_val ad))) := by
  unfold mm_3 at hs
  split at hs
  · rename_i y x st0
    cases hf : f x y with
    | none => rw [hf] at hs; cases hs
    | some z =>
      rw [hf] at hs
      cases hs
      obtain ⟨hz, k⟩ := rr x y z (st0.map (mm_val ad)) (mm_ok_h (mm_ok_t hst)) (mm_ok_h hst) hf
      exact k (kk H locs ls hR hL (mm_ok_c hz (mm_ok_t (mm_ok_t hst))))
  · cases hs
theorem so_1 {f : Int → mm_V} (hs : mm_1 pc1 L st h f = some (pc', L', st', h')) (hR : mm_Rp D cy ad A X s.heap h H locs) (hL : mm_lc ad K.2.1 L ls) (hst : ∀ v ∈ st, mm_ok v)
    (rr : ∀ (x : Int) (rest : List Value), mm_r32 x → mm_ok (f x) ∧ (W p l e R s m args below meth c H locs cells slots Q (F0 m pc1 ls (mm_val ad (f x) :: rest)) → W p l e R s m args below meth c H locs cells slots Q (F0 m pc ls (.int (Int32.ofInt x) :: rest))))
    (kk : mm_KK p l e R s m args below meth c cells slots Q D cy ad A X K.2.1 pc' L' st' h') : W p l e R s m args below meth c H locs cells slots Q (F0 m pc ls (st.map (mm_val ad))) := by
  unfold mm_1 at hs
  split at hs
  · rename_i x st0
    cases hs
    obtain ⟨hz, k⟩ := rr x (st0.map (mm_val ad)) (mm_ok_h hst)
    exact k (kk H locs ls hR hL (mm_ok_c hz (mm_ok_t hst)))
  · cases hs
theorem so_p {v : mm_V} (hs : (some (pc1, L, v :: st, h) : Option mm_N) = some (pc', L', st', h')) (hR : mm_Rp D cy ad A X s.heap h H locs) (hL : mm_lc ad K.2.1 L ls) (hst : ∀ v ∈ st, mm_ok v) (hv : mm_ok v)
    (rr : W p l e R s m args below meth c H locs cells slots Q (F0 m pc1 ls (mm_val ad v :: st.map (mm_val ad))) → W p l e R s m args below meth c H locs cells slots Q (F0 m pc ls (st.map (mm_val ad))))
    (kk : mm_KK p l e R s m args below meth c cells slots Q D cy ad A X K.2.1 pc' L' st' h') : W p l e R s m args below meth c H locs cells slots Q (F0 m pc ls (st.map (mm_val ad))) := by
  cases hs
  exact rr (kk H locs ls hR hL (mm_ok_c hv hst))
theorem so_ld {i k : Nat} (hs : mm_ld pc1 i k L st h = some (pc', L', st', h')) (hR : mm_Rp D cy ad A X s.heap h H locs) (hL : mm_lc ad K.2.1 L ls) (hst : ∀ v ∈ st, mm_ok v)
    (rr : ∀ (v : mm_V), ls[i]? = some (.val (mm_val ad v)) → (match v with | .inl _ => k = 0 | .inr (.inl _) => k = 1 | .inr (.inr _) => k = 2) → W p l e R s m args below meth c H locs cells slots Q (F0 m pc1 ls (mm_val ad v :: st.map (mm_val ad))) → W p l e R s m args below meth c H locs cells slots Q (F0 m pc ls (st.map (mm_val ad))))
    (kk : mm_KK p l e R s m args below meth c cells slots Q D cy ad A X K.2.1 pc' L' st' h') : W p l e R s m args below meth c H locs cells slots Q (F0 m pc ls (st.map (mm_val ad))) := by
  unfold mm_ld at hs
  split at hs
  · rename_i x hx
    obtain ⟨h1, h2⟩ := hL.2.2.2 _ _ hx
    split at hs
    · rename_i hk
      cases hs
      exact rr (vI x) h1 hk (kk H locs ls hR hL (mm_ok_c h2 hst))
    · cases hs
  · rename_i x hx
    obtain ⟨h1, h2⟩ := hL.2.2.2 _ _ hx
    split at hs
    · rename_i hk
      cases hs
      exact rr (vL x) h1 hk (kk H locs ls hR hL (mm_ok_c h2 hst))
    · cases hs
  · rename_i x hx
    obtain ⟨h1, h2⟩ := hL.2.2.2 _ _ hx
    split at hs
    · rename_i hk
      cases hs
      exact rr (vR x) h1 hk (kk H locs ls hR hL (mm_ok_c h2 hst))
    · cases hs
  · cases hs
theorem so_st1 {i : Nat} (hs : mm_st1 pc1 i L st h = some (pc', L', st', h')) (hR : mm_Rp D cy ad A X s.heap h H locs) (hL : mm_lc ad K.2.1 L ls) (hst : ∀ v ∈ st, mm_ok v)
    (rr : ∀ (x : Int32) (rest : List Value), i < K.2.1 → (∀ ls' : Array Slot, lv_has ls' K.2.1 ((i, Value.int x) :: (mm_lv ad L).filter (fun q => !(q.1 == i) && !(q.1 + 1 == i && q.2.category == 2))) → W p l e R s m args below meth c H locs cells slots Q (F0 m pc1 ls' rest)) → W p l e R s m args below meth c H locs cells slots Q (F0 m pc ls (.int x :: rest)))
    (kk : mm_KK p l e R s m args below meth c cells slots Q D cy ad A X K.2.1 pc' L' st' h') : W p l e R s m args below meth c H locs cells slots Q (F0 m pc ls (st.map (mm_val ad))) := by
  unfold mm_st1 at hs
  split at hs
  · rename_i x st0
    cases hf : mm_sto L i (vI x) with
    | none => rw [hf] at hs; cases hs
    | some L1 =>
      rw [hf] at hs
      cases hs
      exact rr (Int32.ofInt x) (st'.map (mm_val ad)) (by rw [← hL.1]; exact mm_sto_lt hf) (fun ls' hl' => kk H locs ls' hR (mm_lc_sto hL hf (mm_ok_h hst) hl') (mm_ok_t hst))
  · cases hs
theorem so_st2 {i : Nat} (hs : mm_st2 pc1 i L st h = some (pc', L', st', h')) (hR : mm_Rp D cy ad A X s.heap h H locs) (hL : mm_lc ad K.2.1 L ls) (hst : ∀ v ∈ st, mm_ok v)
    (rr : ∀ (x : Int64) (rest : List Value), i + 1 < K.2.1 → (∀ ls' : Array Slot, lv_has ls' K.2.1 ((i, Value.long x) :: (mm_lv ad L).filter (fun q => !(q.1 == i) && (!(q.1 == i + 1) && !(q.1 + 1 == i && q.2.category == 2)))) → W p l e R s m args below meth c H locs cells slots Q (F0 m pc1 ls' rest)) → W p l e R s m args below meth c H locs cells slots Q (F0 m pc ls (.long x :: rest)))
    (kk : mm_KK p l e R s m args below meth c cells slots Q D cy ad A X K.2.1 pc' L' st' h') : W p l e R s m args below meth c H locs cells slots Q (F0 m pc ls (st.map (mm_val ad))) := by
  unfold mm_st2 at hs
  split at hs
  · rename_i x st0
    cases hf : mm_stoL L i (vL x) with
    | none => rw [hf] at hs; cases hs
    | some L1 =>
      rw [hf] at hs
      cases hs
      exact rr (Int64.ofInt x) (st'.map (mm_val ad)) (by rw [← hL.1]; exact mm_stoL_lt hf) (fun ls' hl' => kk H locs ls' hR (mm_lc_stoL hL hf (mm_ok_h hst) hl') (mm_ok_t hst))
  · cases hs
theorem so_st3 {i : Nat} (hs : mm_st3 pc1 i L st h = some (pc', L', st', h')) (hR : mm_Rp D cy ad A X s.heap h H locs) (hL : mm_lc ad K.2.1 L ls) (hst : ∀ v ∈ st, mm_ok v)
    (rr : ∀ (x : Nat) (rest : List Value), i < K.2.1 → (∀ ls' : Array Slot, lv_has ls' K.2.1 ((i, Value.ref x) :: (mm_lv ad L).filter (fun q => !(q.1 == i) && !(q.1 + 1 == i && q.2.category == 2))) → W p l e R s m args below meth c H locs cells slots Q (F0 m pc1 ls' rest)) → W p l e R s m args below meth c H locs cells slots Q (F0 m pc ls (.ref x :: rest)))
    (kk : mm_KK p l e R s m args below meth c cells slots Q D cy ad A X K.2.1 pc' L' st' h') : W p l e R s m args below meth c H locs cells slots Q (F0 m pc ls (st.map (mm_val ad))) := by
  unfold mm_st3 at hs
  split at hs
  · rename_i x st0
    cases hf : mm_sto L i (vR x) with
    | none => rw [hf] at hs; cases hs
    | some L1 =>
      rw [hf] at hs
      cases hs
      exact rr (ad x) (st'.map (mm_val ad)) (by rw [← hL.1]; exact mm_sto_lt hf) (fun ls' hl' => kk H locs ls' hR (mm_lc_sto hL hf trivial hl') (mm_ok_t hst))
  · cases hs
theorem mm_jmp_spec {off : Int} (hs : mm_jmp pc off L st h = some (pc', L', st', h')) : (pc : Int) + off = (pc' : Int) ∧ L' = L ∧ st' = st ∧ h' = h := by
  unfold mm_jmp at hs
  split at hs
  · cases hs
    exact ⟨by omega, rfl, rfl, rfl⟩
  · cases hs
theorem so_if {off : Int} {q : Int → Bool} (hs : mm_if pc off L st h q = some (pc', L', st', h')) (hR : mm_Rp D cy ad A X s.heap h H locs) (hL : mm_lc ad K.2.1 L ls) (hst : ∀ v ∈ st, mm_ok v)
    (rr : ∀ (x : Int) (tgt : Nat) (rest : List Value), mm_r32 x → (pc : Int) + off = (tgt : Int) → (q x = true → W p l e R s m args below meth c H locs cells slots Q (F0 m tgt ls rest)) → (q x = false → W p l e R s m args below meth c H locs cells slots Q (F0 m (pc + 3) ls rest)) → W p l e R s m args below meth c H locs cells slots Q (F0 m pc ls (.int (Int32.ofInt x) :: rest)))
    (kk : mm_KK p l e R s m args below meth c cells slots Q D cy ad A X K.2.1 pc' L' st' h') : W p l e R s m args below meth c H locs cells slots Q (F0 m pc ls (st.map (mm_val ad))) := by
  unfold mm_if at hs
  split at hs
  · rename_i x st0
    split at hs
    · rename_i h0
      refine rr x ((pc : Int) + off).toNat _ (mm_ok_h hst) (by omega) (fun hq => ?_) (fun hq => ?_)
      · rw [if_pos hq] at hs
        cases hs
        exact kk H locs ls hR hL (mm_ok_t hst)
      · rw [if_neg (by rw [hq]; decide)] at hs
        cases hs
        exact kk H locs ls hR hL (mm_ok_t hst)
    · cases hs
  · cases hs
theorem so_ic {off : Int} {q : Int → Int → Bool} (hs : mm_ic pc off L st h q = some (pc', L', st', h')) (hR : mm_Rp D cy ad A X s.heap h H locs) (hL : mm_lc ad K.2.1 L ls) (hst : ∀ v ∈ st, mm_ok v)
    (rr : ∀ (x y : Int) (tgt : Nat) (rest : List Value), mm_r32 x → mm_r32 y → (pc : Int) + off = (tgt : Int) → (q x y = true → W p l e R s m args below meth c H locs cells slots Q (F0 m tgt ls rest)) → (q x y = false → W p l e R s m args below meth c H locs cells slots Q (F0 m (pc + 3) ls rest)) → W p l e R s m args below meth c H locs cells slots Q (F0 m pc ls (.int (Int32.ofInt y) :: .int (Int32.ofInt x) :: rest)))
    (kk : mm_KK p l e R s m args below meth c cells slots Q D cy ad A X K.2.1 pc' L' st' h') : W p l e R s m args below meth c H locs cells slots Q (F0 m pc ls (st.map (mm_val ad))) := by
  unfold mm_ic at hs
  split at hs
  · rename_i y x st0
    split at hs
    · rename_i h0
      refine rr x y ((pc : Int) + off).toNat _ (mm_ok_h (mm_ok_t hst)) (mm_ok_h hst) (by omega) (fun hq => ?_) (fun hq => ?_)
      · rw [if_pos hq] at hs
        cases hs
        exact kk H locs ls hR hL (mm_ok_t (mm_ok_t hst))
      · rw [if_neg (by rw [hq]; decide)] at hs
        cases hs
        exact kk H locs ls hR hL (mm_ok_t (mm_ok_t hst))
    · cases hs
  · cases hs
theorem mm_mokI (hm : mm_mok h) {c : Nat} (hc : ¬ mm_ak c = 2) (i : Int) : mm_r32 (h c i) := by have := hm c i; rw [if_neg hc] at this; exact this
theorem mm_mokL (hm : mm_mok h) {c : Nat} (hc : mm_ak c = 2) (i : Int) : mm_r64 (h c i) := by have := hm c i; rw [if_pos hc] at this; exact this
theorem mm_mok_up (hm : mm_mok h) {c : Nat} {i v : Int} (hv : if mm_ak c = 2 then mm_r64 v else mm_r32 v) : mm_mok (mUp h c i v) := by
  intro c' i'
  unfold mUp
  by_cases z : c' = c ∧ i' = i
  · rw [if_pos z, z.1]; exact hv
  · rw [if_neg z]; exact hm c' i'
theorem mm_hs_up (hx : mm_hs X h) {c : Nat} {i v : Int} (hc : c ≠ 110) : mm_hs X (mUp h c i v) := by
  have : mUp h c i v 110 = h 110 := by funext j; unfold mUp; rw [if_neg (fun z => hc z.1.symm)]
  unfold mm_hs; rw [this]; exact hx
theorem mUp_ne {c c' : Nat} {i v : Int} (hc : c' ≠ c) : mUp h c i v c' = h c' := by funext j; unfold mUp; rw [if_neg (fun z => hc z.1)]
theorem so_lda {k : Nat} (hs : mm_lda pc1 k L st h = some (pc', L', st', h')) (hC : mm_Cx D cy ad A X K p s m args c) (hR : mm_Rp D cy ad A X s.heap h H locs) (hL : mm_lc ad K.2.1 L ls) (hst : ∀ v ∈ st, mm_ok v)
    (r1 : ∀ (a : Nat) (n : Nat) (f : Nat → Int32) (i : Int32) (rest : List Value) (j : Nat), k ≠ 2 → (k = 1 ∨ k = 3 ∨ k = 4) → (mm_ws cy ad h)[j]? = some (a, .inl (cy k, n, .inl f)) → vp_in i n → W p l e R s m args below meth c H locs cells slots Q (F0 m pc1 ls (.int (f i.toNatClampNeg) :: rest)) → W p l e R s m args below meth c H locs cells slots Q (F0 m pc ls (.int i :: .ref a :: rest)))
    (r2 : ∀ (a : Nat) (n : Nat) (f : Nat → Int64) (i : Int32) (rest : List Value) (j : Nat), k = 2 → (mm_ws cy ad h)[j]? = some (a, .inl (cy 2, n, .inr (.inl f))) → vp_in i n → W p l e R s m args below meth c H locs cells slots Q (F0 m pc1 ls (.long (f i.toNatClampNeg) :: rest)) → W p l e R s m args below meth c H locs cells slots Q (F0 m pc ls (.int i :: .ref a :: rest)))
    (r3 : ∀ (t N : Nat) (f : Nat → Value) (i : Int32) (rest : List Value), k = 1 → va_T .int t N f A s s.heap → vp_in i N → W p l e R s m args below meth c H locs cells slots Q (F0 m pc1 ls (f i.toNatClampNeg :: rest)) → W p l e R s m args below meth c H locs cells slots Q (F0 m pc ls (.int i :: .ref t :: rest)))
    (hk : 1 ≤ k ∧ k ≤ 4)
    (kk : mm_KK p l e R s m args below meth c cells slots Q D cy ad A X K.2.1 pc' L' st' h') : W p l e R s m args below meth c H locs cells slots Q (F0 m pc ls (st.map (mm_val ad))) := by
  unfold mm_lda at hs
  split at hs
  · rename_i i o st0
    have hi : mm_r32 i := mm_ok_h hst
    by_cases hin : 0 ≤ i ∧ i < mm_al o h
    · rw [if_pos hin] at hs
      by_cases h5 : k = 1 ∧ mm_ak o = 5
      · rw [if_pos h5] at hs
        cases hs
        have hq : ∃ q ∈ mm_statT, q.1 = o ∧ mm_an o = (q.2.2.2 : Nat) := by
          have h6 := h5.2
          unfold mm_ak at h6
          by_cases hc : o < 83
          · rw [if_pos hc] at h6
            exfalso
            have := List.all_eq_true.mp mm_obchk o (List.mem_range.mpr hc)
            generalize mm_obT.getD o (9, 0, 0) = q at this h6
            obtain ⟨k', a, n⟩ := q
            dsimp only at h6
            subst h6
            exact absurd (show ((5 : Nat) == 1 || (5 : Nat) == 2 || (5 : Nat) == 3 || (5 : Nat) == 4) = true from this) (by decide)
          · rw [if_neg hc] at h6
            by_cases hc2 : 100 ≤ o ∧ o ≤ 105
            · have : o = 100 ∨ o = 101 ∨ o = 102 ∨ o = 103 ∨ o = 104 ∨ o = 105 := by omega
              rcases this with rfl | rfl | rfl | rfl | rfl | rfl
              · exact ⟨_, List.mem_of_getElem? (i := 0) rfl, rfl, rfl⟩
              · exact ⟨_, List.mem_of_getElem? (i := 1) rfl, rfl, rfl⟩
              · exact ⟨_, List.mem_of_getElem? (i := 2) rfl, rfl, rfl⟩
              · exact ⟨_, List.mem_of_getElem? (i := 3) rfl, rfl, rfl⟩
              · exact ⟨_, List.mem_of_getElem? (i := 4) rfl, rfl, rfl⟩
              · exact ⟨_, List.mem_of_getElem? (i := 5) rfl, rfl, rfl⟩
            · rw [if_neg hc2] at h6
              split at h6 <;> cases h6
        obtain ⟨q, hq1, rfl, hq2⟩ := hq
        obtain ⟨-, hT⟩ := hC.2.2.2.2.2.2.1 q hq1
        have hal : mm_al q.1 h = (q.2.2.2 : Nat) := by unfold mm_al; rw [if_neg (by rw [h5.2]; decide), hq2]
        refine r3 _ _ _ (Int32.ofInt i) (st0.map (mm_val ad)) h5.1 hT (mm_vin hi hin.1 (by rw [← hal]; exact hin.2)) ?_
        have hcr : mm_r32 (mm_ct q.1 i) := by
          have hch : ∀ q ∈ mm_statT, ∀ j : Nat, j < q.2.2.2 → mm_r32 (mm_ct q.1 (j : Int)) := by unfold mm_r32; decide +kernel
          have := hch q hq1 i.toNat (by have := hin.2; rw [hal] at this; omega)
          rwa [show ((i.toNat : Nat) : Int) = i from by omega] at this
        have e2 : (Int32.ofInt i).toNatClampNeg = i.toNat := mm_nn hi
        show W p l e R s m args below meth c H locs cells slots Q (F0 m pc' ls (.int (Int32.ofInt (mm_ct q.1 ((Int32.ofInt i).toNatClampNeg : Nat))) :: st0.map (mm_val ad)))
        rw [e2, show ((i.toNat : Nat) : Int) = i from by omega]
        exact kk H locs ls hR hL (mm_ok_c hcr (mm_ok_t (mm_ok_t hst)))
      · rw [if_neg h5] at hs
        by_cases h6 : mm_ak o = k ∨ (k = 1 ∧ mm_ak o = 6)
        · rw [if_pos h6] at hs
          cases hs
          have e2 : (Int32.ofInt i).toNatClampNeg = i.toNat := mm_nn hi
          have e3 : ((i.toNat : Nat) : Int) = i := by omega
          by_cases h7 : mm_ak o = 6
          · have hk1 : k = 1 := by rcases h6 with z | z
                                   · omega
                                   · exact z.1
            subst hk1
            have ho : o = 110 := by
              unfold mm_ak at h7
              by_cases hc : o < 83
              · rw [if_pos hc] at h7
                exfalso
                have := List.all_eq_true.mp mm_obchk o (List.mem_range.mpr hc)
                generalize mm_obT.getD o (9, 0, 0) = q at this h7
                obtain ⟨k', a, n⟩ := q
                dsimp only at h7
                subst h7
                exact absurd (show ((6 : Nat) == 1 || (6 : Nat) == 2 || (6 : Nat) == 3 || (6 : Nat) == 4) = true from this) (by decide)
              · rw [if_neg hc] at h7
                split at h7
                · cases h7
                · split at h7
                  · assumption
                  · cases h7
            subst ho
            obtain ⟨hX1, hX2⟩ := hR.2.2.2.2
            have hal : mm_al 110 h = (X.2 : Nat) := by unfold mm_al; rw [if_pos h7, hX1]
            have hlt : i.toNat < X.2 := by have := hin.2; rw [hal] at this; omega
            refine r3 _ _ _ (Int32.ofInt i) (st0.map (mm_val ad)) rfl hC.2.2.2.2.2.2.2.2 (mm_vin hi hin.1 (by rw [← hal]; exact hin.2)) ?_
            show W p l e R s m args below meth c H locs cells slots Q (F0 m pc' ls (.int (Int32.ofInt (X.1 (Int32.ofInt i).toNatClampNeg)) :: st0.map (mm_val ad)))
            rw [e2, ← hX2 _ hlt, e3]
            exact kk H locs ls hR hL (mm_ok_c (mm_mokI hR.2.2.2.1 (by rw [h7]; decide) i) (mm_ok_t (mm_ok_t hst)))
          · have hk0 : mm_ak o = k := by rcases h6 with z | z
                                         · exact z
                                         · exact absurd z.2 h7
            obtain ⟨hlt, -, han⟩ := mm_ak_lt (c := o) (by omega)
            have hal : mm_al o h = ((mm_obT.getD o (9, 0, 0)).2.2 : Nat) := by unfold mm_al; rw [if_neg h7, han]
            have hg := mm_ws_get (cy := cy) (ad := ad) (h := h) hlt
            have hv := mm_vin hi hin.1 (show i < ((mm_obT.getD o (9, 0, 0)).2.2 : Nat) by rw [← hal]; exact hin.2)
            by_cases h2 : k = 2
            · subst h2
              rw [mm_ce_long hk0] at hg
              refine r2 _ _ _ (Int32.ofInt i) (st0.map (mm_val ad)) o rfl hg hv ?_
              rw [e2, e3]
              exact kk H locs ls hR hL (mm_ok_c (v := vL (h o i)) (mm_mokL hR.2.2.2.1 hk0 i) (mm_ok_t (mm_ok_t hst)))
            · have h3 : k = 1 ∨ k = 3 ∨ k = 4 := by omega
              rw [mm_ce_int hk0 h3] at hg
              refine r1 _ _ _ (Int32.ofInt i) (st0.map (mm_val ad)) o h2 h3 hg hv ?_
              rw [e2, e3]
              rw [if_neg h2] at kk
              exact kk H locs ls hR hL (mm_ok_c (v := vI (h o i)) (mm_mokI hR.2.2.2.1 (by rw [hk0]; exact h2) i) (mm_ok_t (mm_ok_t hst)))
        · rw [if_neg h6] at hs
          cases hs
    · rw [if_neg hin] at hs
      cases hs
  · cases hs
end SO
