/-! stores, fields, Math, arraycopy -/
section SO2
variable {p : Program} {l : Launch} {e : Env} {R : Room} {s : State} {m : MethodId} {args : Array Value} {below : List Frame} {meth : Method} {c : Code} {H : Heap} {locs : List Loc} {cells slots : Nat} {Q : State → Prop}
variable {D : va_G} {cy : Nat → ClassId} {ad : Nat → Nat} {A : Nat → Prop} {X : (Nat → Int) × Nat} {K : mm_K} {pc len pc' pc1 : Nat} {ls : Array Slot} {L L' : mm_L} {st st' : List mm_V} {h h' : mm_M}
theorem mm_ne110 {c : Nat} (h : mm_ak c < 5) : c ≠ 110 := by
  obtain ⟨h1, -, -⟩ := mm_ak_lt h
  unfold mm_no at h1
  omega
theorem mm_fv0 {f : Int → Int} {o ci k : Nat} (hk : mm_fk ci k = 0) : mm_fv ad f o ci k = .int (Int32.ofInt (f k)) := by unfold mm_fv; rw [hk]; rfl
theorem mm_fv1 {f : Int → Int} {o ci k : Nat} (hk : mm_fk ci k = 1) : mm_fv ad f o ci k = .int (Int32.ofInt (f k)) := by unfold mm_fv; rw [hk]; rfl
theorem mm_fv2 {f : Int → Int} {o ci k : Nat} (hk : mm_fk ci k = 2) : mm_fv ad f o ci k = .ref (ad (mm_rf o k)) := by unfold mm_fv; rw [hk]; rfl
theorem mm_fv3 {f : Int → Int} {o ci k : Nat} (hk : mm_fk ci k = 3) : mm_fv ad f o ci k = .ref (ad (f k).toNat) := by unfold mm_fv; rw [hk]; rfl
theorem so_sta {k : Nat} (hs : mm_sta pc1 k L st h = some (pc', L', st', h')) (hC : mm_Cx D cy ad A X K p s m args c) (hR : mm_Rp D cy ad A X s.heap h H locs) (hL : mm_lc ad K.2.1 L ls) (hst : ∀ v ∈ st, mm_ok v)
    (r1 : ∀ (a : Nat) (n : Nat) (f : Nat → Int32) (i x : Int32) (y : Int32) (rest : List Value) (j : Nat), (k = 1 ∧ y = x ∨ k = 3 ∧ y = vp_nar .byte x ∨ k = 4 ∧ y = vp_nar .short x) → (mm_ws cy ad h)[j]? = some (a, .inl (cy k, n, .inl f)) → vp_in i n → (∀ (H1 : Heap) (locs1 : List Loc), va_P D vwCl ((mm_ws cy ad h).set j (a, .inl (cy k, n, .inl (upd f i.toNatClampNeg y)))) H1 → va_D A ((mm_ws cy ad h).set j (a, .inl (cy k, n, .inl (upd f i.toNatClampNeg y)))) → va_S A s.heap H1 locs1 → W p l e R s m args below meth c H1 locs1 cells slots Q (F0 m pc1 ls rest)) → W p l e R s m args below meth c H locs cells slots Q (F0 m pc ls (.int x :: .int i :: .ref a :: rest)))
    (r2 : ∀ (a : Nat) (n : Nat) (f : Nat → Int64) (i : Int32) (x : Int64) (rest : List Value) (j : Nat), k = 2 → (mm_ws cy ad h)[j]? = some (a, .inl (cy 2, n, .inr (.inl f))) → vp_in i n → (∀ (H1 : Heap) (locs1 : List Loc), va_P D vwCl ((mm_ws cy ad h).set j (a, .inl (cy 2, n, .inr (.inl (vp_updL f i.toNatClampNeg x))))) H1 → va_D A ((mm_ws cy ad h).set j (a, .inl (cy 2, n, .inr (.inl (vp_updL f i.toNatClampNeg x))))) → va_S A s.heap H1 locs1 → W p l e R s m args below meth c H1 locs1 cells slots Q (F0 m pc1 ls rest)) → W p l e R s m args below meth c H locs cells slots Q (F0 m pc ls (.long x :: .int i :: .ref a :: rest)))
    (kk : mm_KK p l e R s m args below meth c cells slots Q D cy ad A X K.2.1 pc' L' st' h') : W p l e R s m args below meth c H locs cells slots Q (F0 m pc ls (st.map (mm_val ad))) := by
  unfold mm_sta at hs
  split at hs
  · rename_i v i o st0
    have hv : mm_r32 v := mm_ok_h hst
    have hi : mm_r32 i := mm_ok_h (mm_ok_t hst)
    by_cases hin : 0 ≤ i ∧ i < mm_an o
    · rw [if_pos hin] at hs
      by_cases h1 : mm_ak o = k ∧ (k = 1 ∨ k = 3 ∨ k = 4)
      · rw [if_pos h1] at hs
        cases hs
        obtain ⟨hk, h3⟩ := h1
        obtain ⟨hlt, -, han⟩ := mm_ak_lt (c := o) (by omega)
        have hg := mm_ws_get (cy := cy) (ad := ad) (h := h) hlt
        have hvi := mm_vin hi hin.1 (show i < ((mm_obT.getD o (9, 0, 0)).2.2 : Nat) by rw [← han]; exact hin.2)
        rw [mm_ce_int hk h3] at hg
        have e2 : (Int32.ofInt i).toNatClampNeg = i.toNat := mm_nn hi
        have hw : mm_r32 (if k = 3 then w8 v else if k = 4 then w16 v else v) := by
          split
          · exact w8_r32 v
          · split
            · exact w16_r32 v
            · exact hv
        refine r1 _ _ _ (Int32.ofInt i) (Int32.ofInt v) (Int32.ofInt (if k = 3 then w8 v else if k = 4 then w16 v else v)) (st'.map (mm_val ad)) o ?_ hg hvi ?_
        · rcases h3 with z | z | z
          · exact Or.inl ⟨z, by subst z; rfl⟩
          · exact Or.inr (Or.inl ⟨z, by subst z; rw [vp_nar_byte, mm_b8]; rfl⟩)
          · exact Or.inr (Or.inr ⟨z, by subst z; rw [vp_nar_short, mm_s16]; rfl⟩)
        · intro H1 locs1 hP hD hS
          have hce : mm_ce cy ad (mUp h o i (if k = 3 then w8 v else if k = 4 then w16 v else v) o) o = .inl (cy k, (mm_obT.getD o (9, 0, 0)).2.2, .inl (upd (fun j => Int32.ofInt (h o j)) (Int32.ofInt i).toNatClampNeg (Int32.ofInt (if k = 3 then w8 v else if k = 4 then w16 v else v)))) := by
            rw [mm_ce_int hk h3]
            refine congrArg Sum.inl (congrArg (Prod.mk _) (congrArg (Prod.mk _) (congrArg Sum.inl ?_)))
            funext j
            rw [e2]
            unfold upd mUp
            by_cases hj : j = i.toNat
            · rw [if_pos hj, if_pos ⟨rfl, by omega⟩]
            · rw [if_neg hj, if_neg (fun z => hj (by omega))]
          rw [mm_ws_set hlt hce (fun c' hc' => mUp_ne hc')] at hP hD
          exact kk H1 locs1 ls ⟨hP, hD, hS, mm_mok_up hR.2.2.2.1 (by rw [if_neg (by omega)]; exact hw), mm_hs_up hR.2.2.2.2 (mm_ne110 (by omega))⟩ hL (mm_ok_t (mm_ok_t (mm_ok_t hst)))
      · rw [if_neg h1] at hs; cases hs
    · rw [if_neg hin] at hs; cases hs
  · rename_i v i o st0
    have hv : mm_r64 v := mm_ok_h hst
    have hi : mm_r32 i := mm_ok_h (mm_ok_t hst)
    by_cases hin : 0 ≤ i ∧ i < mm_an o
    · rw [if_pos hin] at hs
      by_cases h1 : mm_ak o = k ∧ k = 2
      · rw [if_pos h1] at hs
        cases hs
        obtain ⟨hk, h3⟩ := h1
        subst h3
        obtain ⟨hlt, -, han⟩ := mm_ak_lt (c := o) (by omega)
        have hg := mm_ws_get (cy := cy) (ad := ad) (h := h) hlt
        have hvi := mm_vin hi hin.1 (show i < ((mm_obT.getD o (9, 0, 0)).2.2 : Nat) by rw [← han]; exact hin.2)
        rw [mm_ce_long hk] at hg
        have e2 : (Int32.ofInt i).toNatClampNeg = i.toNat := mm_nn hi
        refine r2 _ _ _ (Int32.ofInt i) (Int64.ofInt v) (st'.map (mm_val ad)) o rfl hg hvi ?_
        intro H1 locs1 hP hD hS
        have hce : mm_ce cy ad (mUp h o i v o) o = .inl (cy 2, (mm_obT.getD o (9, 0, 0)).2.2, .inr (.inl (vp_updL (fun j => Int64.ofInt (h o j)) (Int32.ofInt i).toNatClampNeg (Int64.ofInt v)))) := by
          rw [mm_ce_long hk]
          refine congrArg Sum.inl (congrArg (Prod.mk _) (congrArg (Prod.mk _) (congrArg Sum.inr (congrArg Sum.inl ?_))))
          funext j
          rw [e2]
          unfold vp_updL mUp
          by_cases hj : j = i.toNat
          · rw [if_pos hj, if_pos ⟨rfl, by omega⟩]
          · rw [if_neg hj, if_neg (fun z => hj (by omega))]
        rw [mm_ws_set hlt hce (fun c' hc' => mUp_ne hc')] at hP hD
        exact kk H1 locs1 ls ⟨hP, hD, hS, mm_mok_up hR.2.2.2.1 (by rw [if_pos hk]; exact hv), mm_hs_up hR.2.2.2.2 (mm_ne110 (by omega))⟩ hL (mm_ok_t (mm_ok_t (mm_ok_t hst)))
      · rw [if_neg h1] at hs; cases hs
    · rw [if_neg hin] at hs; cases hs
  · cases hs
theorem so_gf {i : Nat} (hs : mm_gf (pc + 3) (mm_fl K.2.2.2.1 i) L st h = some (pc', L', st', h')) (hd : decode K.1 pc = .ok (.getfield i, 3)) (hC : mm_Cx D cy ad A X K p s m args c) (hR : mm_Rp D cy ad A X s.heap h H locs) (hL : mm_lc ad K.2.1 L ls) (hst : ∀ v ∈ st, mm_ok v)
    (kk : mm_KK p l e R s m args below meth c cells slots Q D cy ad A X K.2.1 pc' L' st' h') : W p l e R s m args below meth c H locs cells slots Q (F0 m pc ls (st.map (mm_val ad))) := by
  unfold mm_gf at hs
  split at hs
  · rename_i f ci k o st0 hf
    obtain ⟨hx, hb, hml, hown, hts, hK, -, -⟩ := hC
    obtain ⟨C, T, N, hq, hk, hw⟩ := mm_fl_spec hf
    by_cases h1 : mm_oc o = some ci ∧ mm_ak o = 0
    · rw [if_pos h1] at hs
      obtain ⟨C', T', N', hq', hlt, hob⟩ := mm_oc_spec h1.1 h1.2
      rw [hq] at hq'
      cases hq'
      have hg := mm_ws_get (cy := cy) (ad := ad) (h := h) hlt
      rw [mm_ce_obj hob] at hg
      have hfs : ((List.range N).map (mm_fv ad (h o) o ci))[k]? = some (mm_fv ad (h o) o ci k) := by rw [List.getElem?_map, List.getElem?_range hk]; rfl
      have go : W p l e R s m args below meth c H locs cells slots Q (F0 m (pc + 3) ls (mm_fv ad (h o) o ci k :: st0.map (mm_val ad))) → W p l e R s m args below meth c H locs cells slots Q (F0 m pc ls (.ref (ad o) :: st0.map (mm_val ad))) :=
        fun z => va_get (D := D) hx hb hts (mm_cls_spec hq).1 hown hK hR.1 o hg hq k hk (hts _ hw) (fun _ h9 => h9) hfs hd z
      refine go ?_
      by_cases h2 : mm_fk ci k ≤ 1
      · rw [if_pos h2] at hs
        cases hs
        have : mm_fv ad (h o) o ci k = .int (Int32.ofInt (h o k)) := by
          have : mm_fk ci k = 0 ∨ mm_fk ci k = 1 := by omega
          rcases this with z | z
          · exact mm_fv0 z
          · exact mm_fv1 z
        rw [this]
        exact kk H locs ls hR hL (mm_ok_c (v := vI (h o k)) (mm_mokI hR.2.2.2.1 (by rw [h1.2]; decide) _) (mm_ok_t hst))
      · rw [if_neg h2] at hs
        by_cases h3 : mm_fk ci k = 2
        · rw [if_pos h3] at hs
          cases hs
          have : mm_fv ad (h o) o ci k = .ref (ad (mm_rf o k)) := mm_fv2 h3
          rw [this]
          exact kk H locs ls hR hL (mm_ok_c (v := vR (mm_rf o k)) trivial (mm_ok_t hst))
        · rw [if_neg h3] at hs
          by_cases h4 : mm_fk ci k = 3
          · rw [if_pos h4] at hs
            cases hs
            have : mm_fv ad (h o) o ci k = .ref (ad (h o k).toNat) := mm_fv3 h4
            rw [this]
            exact kk H locs ls hR hL (mm_ok_c (v := vR (h o k).toNat) trivial (mm_ok_t hst))
          · rw [if_neg h4] at hs; cases hs
    · rw [if_neg h1] at hs; cases hs
  · cases hs
theorem mm_fv_set {f f' : Int → Int} {o ci N k : Nat} {v : Value} (hv : mm_fv ad f' o ci k = v) (ho : ∀ j : Nat, j ≠ k → f' j = f j) : ((List.range N).map (mm_fv ad f o ci)).set k v = (List.range N).map (mm_fv ad f' o ci) := by
  refine List.ext_getElem? fun j => ?_
  rw [List.getElem?_set, List.getElem?_map, List.getElem?_map, List.length_map, List.length_range]
  by_cases hj : k = j
  · subst hj
    rw [if_pos rfl]
    by_cases hN : k < N
    · rw [if_pos hN, List.getElem?_range hN, ← hv]; rfl
    · rw [if_neg hN, List.getElem?_eq_none (by simpa using hN)]; rfl
  · rw [if_neg hj]
    by_cases hN : j < N
    · rw [List.getElem?_range hN]
      show some (mm_fv ad f o ci j) = some (mm_fv ad f' o ci j)
      unfold mm_fv
      rw [ho j (fun z => hj z.symm)]
    · rw [List.getElem?_eq_none (by simpa using hN)]; rfl
theorem so_pf {i : Nat} (hs : mm_pf (pc + 3) (mm_fl K.2.2.2.1 i) L st h = some (pc', L', st', h')) (hd : decode K.1 pc = .ok (.putfield i, 3)) (hC : mm_Cx D cy ad A X K p s m args c) (hR : mm_Rp D cy ad A X s.heap h H locs) (hL : mm_lc ad K.2.1 L ls) (hst : ∀ v ∈ st, mm_ok v)
    (kk : mm_KK p l e R s m args below meth c cells slots Q D cy ad A X K.2.1 pc' L' st' h') : W p l e R s m args below meth c H locs cells slots Q (F0 m pc ls (st.map (mm_val ad))) := by
  have gen : ∀ (o ci k : Nat) (C : String) (T : u_T) (N : Nat) (v : Value) (z : Int) (ty : FieldType) (rest : List mm_V), vwCl[ci]? = some (C, T, N) → k < N → Cond.fieldLink (mm_own K.2.2.2.1) i (T k).1 (T k).2.1 (T k).2.2.1 ∈ mm_T → mm_oc o = some ci → mm_ak o = 0 → parseFieldDescriptor (T k).2.2.1 = some ty → (T k).2.2.2 = false → narrow ty v = v → fits ty v = true → mm_fv ad (mUp h o k z o) o ci k = v → mm_r32 z → mm_KK p l e R s m args below meth c cells slots Q D cy ad A X K.2.1 (pc + 3) L rest (mUp h o k z) → (∀ w ∈ rest, mm_ok w) → W p l e R s m args below meth c H locs cells slots Q (F0 m pc ls (v :: .ref (ad o) :: rest.map (mm_val ad))) := by
    intro o ci k C T N v z ty rest hq hk hw h1 h0 hty hfin hn hfit hv hz kk hrest
    obtain ⟨hx, hb, hml, hown, hts, hK, -, -⟩ := hC
    obtain ⟨C', T', N', hq', hlt, hob⟩ := mm_oc_spec h1 h0
    rw [hq] at hq'
    cases hq'
    have hg := mm_ws_get (cy := cy) (ad := ad) (h := h) hlt
    rw [mm_ce_obj hob] at hg
    obtain ⟨hin, -, ty0, hty0, hnm⟩ := mm_cls_spec hq
    refine va_put (D := D) hx hb hts hin ty0 hty0 hnm hown hK hR.1 hR.2.1 hR.2.2.1 o hg hq k hk (hts _ hw) (fun _ h9 => h9) hfin hty hn hfit (by rw [List.length_map, List.length_range]; exact hk) hd ?_
    intro H1 locs1 hP hD hS
    have hce : mm_ce cy ad (mUp h o k z o) o = .inr (ci, ((List.range N).map (mm_fv ad (h o) o ci)).set k v) := by
      rw [mm_ce_obj hob]
      refine congrArg Sum.inr (congrArg (Prod.mk ci) ?_)
      refine (mm_fv_set hv (fun j hj => ?_)).symm
      unfold mUp
      rw [if_neg (fun z => hj (by omega))]
    rw [mm_ws_set hlt hce (fun c' hc' => mUp_ne hc')] at hP hD
    exact kk H1 locs1 ls ⟨hP, hD, hS, mm_mok_up hR.2.2.2.1 (by rw [if_neg (by rw [h0]; decide)]; exact hz), mm_hs_up hR.2.2.2.2 (mm_ne110 (by rw [h0]; decide))⟩ hL hrest
  unfold mm_pf at hs
  split at hs
  · rename_i f ci k v o st0 hf
    obtain ⟨C, T, N, hq, hk, hw⟩ := mm_fl_spec hf
    obtain ⟨k0, k1, k3⟩ := mm_k_spec hq hk
    have hv : mm_r32 v := mm_ok_h hst
    have hup : mUp h o k v o k = v := by unfold mUp; rw [if_pos ⟨rfl, rfl⟩]
    by_cases h1 : mm_oc o = some ci ∧ mm_ak o = 0
    · rw [if_pos h1] at hs
      by_cases h2 : mm_fk ci k = 0 ∨ (mm_fk ci k = 1 ∧ (v = 0 ∨ v = 1))
      · rw [if_pos h2] at hs
        cases hs
        rcases h2 with z | ⟨z, zv⟩
        · exact gen o ci k C T N (.int (Int32.ofInt v)) v .int st' hq hk hw h1.1 h1.2 (k0 z).1 (k0 z).2 rfl rfl (by rw [mm_fv0 z, hup]) hv kk (mm_ok_t (mm_ok_t hst))
        · refine gen o ci k C T N (.int (Int32.ofInt v)) v .boolean st' hq hk hw h1.1 h1.2 (k1 z).1 (k1 z).2 ?_ ?_ (by rw [mm_fv1 z, hup]) hv kk (mm_ok_t (mm_ok_t hst))
          · rcases zv with rfl | rfl <;> decide +kernel
          · rcases zv with rfl | rfl <;> decide +kernel
      · rw [if_neg h2] at hs; cases hs
    · rw [if_neg h1] at hs; cases hs
  · rename_i f ci k v o st0 hf
    obtain ⟨C, T, N, hq, hk, hw⟩ := mm_fl_spec hf
    obtain ⟨k0, k1, k3⟩ := mm_k_spec hq hk
    have hup : mUp h o k v o k = v := by unfold mUp; rw [if_pos ⟨rfl, rfl⟩]
    by_cases h1 : mm_oc o = some ci ∧ mm_ak o = 0 ∧ mm_fk ci k = 3 ∧ v < 1000
    · rw [if_pos h1] at hs
      cases hs
      obtain ⟨a1, a2, a3, a4⟩ := h1
      exact gen o ci k C T N (.ref (ad v)) v (.array .int) st' hq hk hw a1 a2 (k3 a3).1 (k3 a3).2 rfl rfl (by rw [mm_fv3 a3, hup]; rfl) (by unfold mm_r32; omega) kk (mm_ok_t (mm_ok_t hst))
    · rw [if_neg h1] at hs; cases hs
  · cases hs
theorem mm_catsum (ad : Nat → Nat) (st : List mm_V) : ((st.map (mm_val ad)).map fun v => v.category).sum = mm_cs st := by
  unfold mm_cs
  induction st with
  | nil => rfl
  | cons v st ih =>
    rw [List.map_cons, List.map_cons, List.map_cons, List.sum_cons, List.sum_cons, ih]
    congr 1
    obtain x | x | x := v <;> rfl
theorem so_nat {i k n2 k2 : Nat} (hm : mm_ml K.2.2.2.1 i = some (k, n2, k2)) (hs : mm_nat (pc + 3) k L st h = some (pc', L', st', h')) (hd : decode K.1 pc = .ok (.invokestatic i, 3)) (hC : mm_Cx D cy ad A X K p s m args c) (hR : mm_Rp D cy ad A X s.heap h H locs) (hL : mm_lc ad K.2.1 L ls) (hst : ∀ v ∈ st, mm_ok v)
    (hroom : 1 ≤ R.frames ∧ 100 ≤ R.locals ∧ cells ≤ R.cells ∧ slots ≤ R.slots)
    (kk : mm_KK p l e R s m args below meth c cells slots Q D cy ad A X K.2.1 pc' L' st' h') : W p l e R s m args below meth c H locs cells slots Q (F0 m pc ls (st.map (mm_val ad))) := by
  obtain ⟨hx, hb, hml, hown, hts, hK, -, -⟩ := hC
  obtain ⟨r1, r2, r3, r4⟩ := hroom
  have hml' : c.maxLocals = ls.size := by rw [hml, hL.2.1]
  unfold mm_nat at hs
  split at hs
  · rename_i y x st0
    by_cases hl : mm_cs st0 ≤ 8
    · rw [if_pos hl] at hs
      cases hs
      have hcs := mm_catsum ad st0
      have hy : mm_r32 y := mm_ok_h hst
      have hxr : mm_r32 x := mm_ok_h (mm_ok_t hst)
      refine va_mmax hx hb hml' hown (hts _ (mm_ml_2 hm)) (hts _ mm_wMax.1) (hts _ mm_wMath) (hts _ mm_wMax.2) r1 (by omega) r3 r4 hd ?_
      have e1 : (if Int32.ofInt x < Int32.ofInt y then Int32.ofInt y else Int32.ofInt x) = Int32.ofInt (if x < y then y else x) := by
        by_cases z : x < y
        · rw [if_pos z, if_pos ((mm_lt32 hxr hy).mpr z)]
        · rw [if_neg z, if_neg (fun w => z ((mm_lt32 hxr hy).mp w))]
      rw [e1]
      exact kk H locs ls hR hL (mm_ok_c (v := vI (if x < y then y else x)) (by show mm_r32 _; split <;> assumption) (mm_ok_t (mm_ok_t hst)))
    · rw [if_neg hl] at hs; cases hs
  · rename_i y x st0
    by_cases hl : mm_cs st0 ≤ 8
    · rw [if_pos hl] at hs
      cases hs
      have hcs := mm_catsum ad st0
      have hy : mm_r32 y := mm_ok_h hst
      have hxr : mm_r32 x := mm_ok_h (mm_ok_t hst)
      refine va_mmin hx hb hml' hown (hts _ (mm_ml_3 hm)) (hts _ mm_wMin.1) (hts _ mm_wMath) (hts _ mm_wMin.2) r1 (by omega) r3 r4 hd ?_
      have e1 : (if Int32.ofInt y < Int32.ofInt x then Int32.ofInt y else Int32.ofInt x) = Int32.ofInt (if y < x then y else x) := by
        by_cases z : y < x
        · rw [if_pos z, if_pos ((mm_lt32 hy hxr).mpr z)]
        · rw [if_neg z, if_neg (fun w => z ((mm_lt32 hy hxr).mp w))]
      rw [e1]
      exact kk H locs ls hR hL (mm_ok_c (v := vI (if y < x then y else x)) (by show mm_r32 _; split <;> assumption) (mm_ok_t (mm_ok_t hst)))
    · rw [if_neg hl] at hs; cases hs
  · rename_i x st0
    by_cases hl : mm_cs st0 ≤ 8
    · rw [if_pos hl] at hs
      cases hs
      have hcs := mm_catsum ad st0
      have hxr : mm_r32 x := mm_ok_h hst
      refine va_mabs hx hb hml' hown (hts _ (mm_ml_4 hm)) (hts _ mm_wAbs.1) (hts _ mm_wMath) (hts _ mm_wAbs.2) r1 (by omega) r3 r4 hd ?_
      have e1 : (if 0 ≤ Int32.ofInt x then Int32.ofInt x else 0 - Int32.ofInt x) = Int32.ofInt (if 0 ≤ x then x else w32 (0 - x)) := by
        by_cases z : 0 ≤ x
        · rw [if_pos z, if_pos (by rw [mm_z32]; exact (mm_le32 mm_rz hxr).mpr z)]
        · rw [if_neg z, if_neg (fun w => z (by rw [mm_z32] at w; exact (mm_le32 mm_rz hxr).mp w)), mm_sub, ← mm_z32]
      rw [e1]
      exact kk H locs ls hR hL (mm_ok_c (v := vI (if 0 ≤ x then x else w32 (0 - x))) (by show mm_r32 _; split; assumption; exact w32_r _) (mm_ok_t hst))
    · rw [if_neg hl] at hs; cases hs
  · rename_i n q b' p' a' st0
    by_cases hl : mm_cs st0 ≤ 8 ∧ (mm_ak b' = 1 ∨ mm_ak b' = 2) ∧ mm_ak a' = mm_ak b'
    · rw [if_pos hl] at hs
      by_cases h1 : 0 ≤ p' ∧ 0 ≤ q ∧ 0 ≤ n ∧ p' + n ≤ mm_an a' ∧ q + n ≤ mm_an b'
      · rw [if_pos h1] at hs
        cases hs
        obtain ⟨l1, l2, l3⟩ := hl
        obtain ⟨b1, b2, b3, b4, b5⟩ := h1
        have hcs := mm_catsum ad st'
        have hn : mm_r32 n := mm_ok_h hst
        have hq : mm_r32 q := mm_ok_h (mm_ok_t hst)
        have hp : mm_r32 p' := mm_ok_h (mm_ok_t (mm_ok_t (mm_ok_t hst)))
        obtain ⟨hlb, -, hnb⟩ := mm_ak_lt (c := b') (by omega)
        obtain ⟨hla, -, hna⟩ := mm_ak_lt (c := a') (by omega)
        have hgb := mm_ws_get (cy := cy) (ad := ad) (h := h) hlb
        have hga := mm_ws_get (cy := cy) (ad := ad) (h := h) hla
        have en : (Int32.ofInt n).toNatClampNeg = n.toNat := mm_nn hn
        have eq' : (Int32.ofInt q).toNatClampNeg = q.toNat := mm_nn hq
        have ep : (Int32.ofInt p').toNatClampNeg = p'.toNat := mm_nn hp
        have nl : ∀ {z : Int}, mm_r32 z → 0 ≤ z → ¬ Int32.ofInt z < 0 := fun hz h0 w => by rw [mm_z32] at w; have := (mm_lt32 hz mm_rz).mp w; omega
        rw [hna] at b4; rw [hnb] at b5
        have hw := mm_wCopy
        have hmok : mm_mok (mCpy h a' p' b' q n) := by
          intro c' i'
          unfold mCpy
          by_cases z : c' = b' ∧ q ≤ i' ∧ i' < q + n
          · rw [if_pos z, z.1, ← l3]; exact hR.2.2.2.1 a' _
          · rw [if_neg z]; exact hR.2.2.2.1 c' i'
        have hhs : mm_hs X (mCpy h a' p' b' q n) := by
          have e1 : mCpy h a' p' b' q n 110 = h 110 := by funext j; unfold mCpy; rw [if_neg (fun z => mm_ne110 (c := b') (by omega) z.1.symm)]
          unfold mm_hs; rw [e1]; exact hR.2.2.2.2
        have hne : ∀ c', c' ≠ b' → mCpy h a' p' b' q n c' = h c' := fun c' hc' => by funext j; unfold mCpy; rw [if_neg (fun z => hc' z.1)]
        have hloc : ((st'.map (mm_val ad)).map fun v => v.category).sum + (nativeFrameWords "java/lang/System" "arraycopy" 5 + 11) ≤ R.locals := by
          have : nativeFrameWords "java/lang/System" "arraycopy" 5 ≤ 40 := by decide +kernel
          omega
        rcases l2 with z | z
        · rw [mm_ce_int z (Or.inl rfl)] at hgb
          rw [mm_ce_int (l3.trans z) (Or.inl rfl)] at hga
          refine va_copyi (ty := .int) hx hb hml' hown (hts _ (mm_ml_5 hm)) (hts _ hw.1) (hts _ hw.2.1) (hts _ hw.2.2) hK hR.1 hR.2.1 hR.2.2.1 a' b' 0 0 hga hgb rfl rfl rfl (nl hp b1) (nl hq b2) (nl hn b3) (by rw [ep, en]; omega) (by rw [eq', en]; omega) (fun _ _ => rfl) r1 hloc hd ?_
          intro H1 locs1 hP hD hS
          have hce : mm_ce cy ad (mCpy h a' p' b' q n b') b' = .inl (cy 1, (mm_obT.getD b' (9, 0, 0)).2.2, .inl (va_cpy (fun j => Int32.ofInt (h a' j)) (fun j => Int32.ofInt (h b' j)) (Int32.ofInt p').toNatClampNeg (Int32.ofInt q).toNatClampNeg (Int32.ofInt n).toNatClampNeg)) := by
            rw [mm_ce_int z (Or.inl rfl)]
            refine congrArg Sum.inl (congrArg (Prod.mk _) (congrArg (Prod.mk _) (congrArg Sum.inl ?_)))
            funext j
            rw [ep, eq', en]
            unfold va_cpy mCpy
            by_cases w : q.toNat ≤ j ∧ j < q.toNat + n.toNat
            · rw [if_pos w, if_pos ⟨rfl, by omega, by omega⟩]
              refine congrArg (fun t => Int32.ofInt (h a' t)) ?_
              omega
            · rw [if_neg w, if_neg (fun w2 => w (by omega))]
          rw [mm_ws_set hlb hce hne] at hP hD
          exact kk H1 locs1 ls ⟨hP, hD, hS, hmok, hhs⟩ hL (mm_ok_t (mm_ok_t (mm_ok_t (mm_ok_t (mm_ok_t hst)))))
        · rw [mm_ce_long z] at hgb
          rw [mm_ce_long (l3.trans z)] at hga
          refine va_copyl (ty := .long) hx hb hml' hown (hts _ (mm_ml_5 hm)) (hts _ hw.1) (hts _ hw.2.1) (hts _ hw.2.2) hK hR.1 hR.2.1 hR.2.2.1 a' b' 1 1 hga hgb rfl rfl rfl (nl hp b1) (nl hq b2) (nl hn b3) (by rw [ep, en]; omega) (by rw [eq', en]; omega) (fun _ _ => rfl) r1 hloc hd ?_
          intro H1 locs1 hP hD hS
          have hce : mm_ce cy ad (mCpy h a' p' b' q n b') b' = .inl (cy 2, (mm_obT.getD b' (9, 0, 0)).2.2, .inr (.inl (va_cpy (fun j => Int64.ofInt (h a' j)) (fun j => Int64.ofInt (h b' j)) (Int32.ofInt p').toNatClampNeg (Int32.ofInt q).toNatClampNeg (Int32.ofInt n).toNatClampNeg))) := by
            rw [mm_ce_long z]
            refine congrArg Sum.inl (congrArg (Prod.mk _) (congrArg (Prod.mk _) (congrArg Sum.inr (congrArg Sum.inl ?_))))
            funext j
            rw [ep, eq', en]
            unfold va_cpy mCpy
            by_cases w : q.toNat ≤ j ∧ j < q.toNat + n.toNat
            · rw [if_pos w, if_pos ⟨rfl, by omega, by omega⟩]
              refine congrArg (fun t => Int64.ofInt (h a' t)) ?_
              omega
            · rw [if_neg w, if_neg (fun w2 => w (by omega))]
          rw [mm_ws_set hlb hce hne] at hP hD
          exact kk H1 locs1 ls ⟨hP, hD, hS, hmok, hhs⟩ hL (mm_ok_t (mm_ok_t (mm_ok_t (mm_ok_t (mm_ok_t hst)))))
      · rw [if_neg h1] at hs; cases hs
    · rw [if_neg hl] at hs; cases hs
  · cases hs
end SO2
