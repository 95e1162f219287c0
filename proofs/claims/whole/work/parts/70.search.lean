/-! routes gone through by numbers: words -/
def tb (u q : Int) : Int := iAnd (iShr u q) 1
theorem tb_fin : ∀ (u : Fin 128) (p q : Fin 7), iAnd (iShr (iOr (u.val : Int) (iShl 1 (p.val : Int))) (q.val : Int)) 1 = (if q = p then 1 else iAnd (iShr (u.val : Int) (q.val : Int)) 1) ∧ 0 ≤ iOr (u.val : Int) (iShl 1 (p.val : Int)) ∧ iOr (u.val : Int) (iShl 1 (p.val : Int)) < 128 ∧ (iAnd (iShr (u.val : Int) (q.val : Int)) 1 = 0 ∨ iAnd (iShr (u.val : Int) (q.val : Int)) 1 = 1) := by decide +kernel
theorem tb_s {u p q : Int} (hu : 0 ≤ u ∧ u < 128) (hp : 0 ≤ p ∧ p < 7) (hq : 0 ≤ q ∧ q < 7) : tb (iOr u (iShl 1 p)) q = (if q = p then 1 else tb u q) ∧ (0 ≤ iOr u (iShl 1 p) ∧ iOr u (iShl 1 p) < 128) ∧ (tb u q = 0 ∨ tb u q = 1) := by
  have t := tb_fin ⟨u.toNat, by omega⟩ ⟨p.toNat, by omega⟩ ⟨q.toNat, by omega⟩
  have eu : ((u.toNat : Nat) : Int) = u := by omega
  have ep : ((p.toNat : Nat) : Int) = p := by omega
  have eq' : ((q.toNat : Nat) : Int) = q := by omega
  simp only [eu, ep, eq'] at t
  obtain ⟨t1, t2, t3, t4⟩ := t
  refine ⟨?_, ⟨t2, t3⟩, t4⟩
  show iAnd (iShr (iOr u (iShl 1 p)) q) 1 = _
  rw [t1]
  by_cases z : q = p
  · rw [if_pos (by rw [Fin.mk.injEq]; omega), if_pos z]
  · rw [if_neg (by rw [Fin.mk.injEq]; omega), if_neg z]
    rfl
theorem tb_0 {q : Int} (hq : 0 ≤ q ∧ q < 7) : tb 0 q = 0 := iShr0 q (by omega)
/-- the way e up to its d-th post, of 1 .. N; u: which are in it -/
def mm_pfx (e : Int → Int) (N d u : Int) : Prop := 0 ≤ d ∧ d ≤ N ∧ (∀ j : Int, 0 ≤ j → j < d → 1 ≤ e j ∧ e j ≤ N) ∧ (∀ i j : Int, 0 ≤ i → i < j → j < d → ¬ e i = e j) ∧ (0 ≤ u ∧ u < 128) ∧ ∀ q : Int, 0 ≤ q → q < 7 → (tb u q = 1 ↔ ∃ j : Int, 0 ≤ j ∧ j < d ∧ e j = q)
def eU (e : Int → Int) (d p : Int) : Int → Int := fun j => if j = d then p else e j
theorem eU_d (e : Int → Int) (d p : Int) : eU e d p d = p := if_pos rfl
theorem eU_n {e : Int → Int} {d p j : Int} (h : ¬ j = d) : eU e d p j = e j := if_neg h
theorem pre_0 (e : Int → Int) (N : Int) (hN : 0 ≤ N) : mm_pfx e N 0 0 := ⟨Int.le_refl _, hN, fun j j0 j1 => by omega, fun i j i0 ij j1 => by omega, by decide, fun q q0 q7 => by
  rw [tb_0 ⟨q0, q7⟩]
  constructor
  · intro w
    omega
  · intro ⟨j, j0, j1, _⟩
    omega⟩
theorem pre_s {e : Int → Int} {N d u p : Int} (N6 : N ≤ 6) (z : mm_pfx e N d u) (dN : d < N) (p1 : 1 ≤ p) (pN : p ≤ N) (hb : ¬ tb u p = 1) : mm_pfx (eU e d p) N (d + 1) (iOr u (iShl 1 p)) := by
  obtain ⟨z1, z2, z3, z4, z5, z6⟩ := z
  have nw : ∀ j : Int, 0 ≤ j → j < d → ¬ e j = p := fun j j0 j1 w => hb ((z6 p (by omega) (by omega)).2 ⟨j, j0, j1, w⟩)
  refine ⟨by omega, by omega, fun j j0 j1 => ?_, fun i j i0 ij j1 => ?_, (tb_s z5 (p := p) (q := p) (by omega) (by omega)).2.1, fun q q0 q7 => ?_⟩
  · by_cases w : j = d
    · rw [w, eU_d]
      exact ⟨p1, pN⟩
    · rw [eU_n w]
      exact z3 j j0 (by omega)
  · rw [eU_n (show ¬ i = d by omega)]
    by_cases w : j = d
    · rw [w, eU_d]
      exact nw i i0 (by omega)
    · rw [eU_n w]
      exact z4 i j i0 ij (by omega)
  · obtain ⟨t1, t2, t3⟩ := tb_s (u := u) (p := p) (q := q) z5 (by omega) ⟨q0, q7⟩
    rw [t1]
    by_cases w : q = p
    · rw [if_pos w]
      exact ⟨fun _ => ⟨d, z1, by omega, by rw [eU_d, w]⟩, fun _ => rfl⟩
    · rw [if_neg w, z6 q q0 q7]
      constructor
      · intro ⟨j, j0, j1, ej⟩
        exact ⟨j, j0, by omega, by rw [eU_n (by omega)]; exact ej⟩
      · intro ⟨j, j0, j1, ej⟩
        by_cases jd : j = d
        · rw [jd, eU_d] at ej
          exact absurd ej.symm w
        · rw [eU_n jd] at ej
          exact ⟨j, j0, by omega, ej⟩
/-- minutes up to the d-th post; all together -/
def mi (D : Int → Int → Int) (e : Int → Int) (d : Int) : Int := if d = 0 then 0 else ar D e (d - 1)
def cst (rule : Int) (D : Int → Int → Int) (e : Int → Int) (d : Int) : Int := if rule = 0 then mi D e d else sm (ar D e) d.toNat
def stp (D : Int → Int → Int) (e : Int → Int) (d p : Int) : Int := if d = 0 then D 0 p else 1 + D (e (d - 1)) p
def mm_D (D : Int → Int → Int) : Prop := ∀ p q : Int, 0 ≤ p → p < 7 → 0 ≤ q → q < 7 → 0 ≤ D p q ∧ D p q ≤ 198
theorem ar_eU {D : Int → Int → Int} (hD : mm_D D) {e : Int → Int} {N d u p j : Int} (N6 : N ≤ 6) (z : mm_pfx e N d u) (j0 : 0 ≤ j) (j1 : j < d) : ar D (eU e d p) j = ar D e j := ar_co j0 (fun _ _ _ _ _ _ => rfl) (fun i i0 i1 => by
  have := z.2.2.1 i i0 (by omega)
  exact ⟨eU_n (by omega), by omega, by omega⟩)
theorem mi_eU {D : Int → Int → Int} (hD : mm_D D) {e : Int → Int} {N d u p : Int} (N6 : N ≤ 6) (z : mm_pfx e N d u) : mi D (eU e d p) (d + 1) = mi D e d + stp D e d p := by
  have z1 := z.1
  unfold mi stp
  rw [if_neg (by omega), show d + 1 - 1 = d from by omega]
  by_cases q : d = 0
  · rw [if_pos q, if_pos q, q, ar0, eU_d]
    omega
  · rw [if_neg q, if_neg q]
    have t := ar1 D (eU e d p) (d - 1) (by omega)
    have t2 : ar D (eU e d p) (d - 1) = ar D e (d - 1) := ar_eU hD N6 z (by omega) (by omega)
    rw [show d - 1 + 1 = d from by omega, eU_d, eU_n (show ¬ d - 1 = d by omega), t2] at t
    rw [t]
    omega
theorem cst_eU {D : Int → Int → Int} (hD : mm_D D) {e : Int → Int} {N d u p rule : Int} (N6 : N ≤ 6) (z : mm_pfx e N d u) : cst rule D (eU e d p) (d + 1) = if rule = 0 then mi D e d + stp D e d p else cst rule D e d + (mi D e d + stp D e d p) := by
  have z1 := z.1
  have m := mi_eU (p := p) hD N6 z
  unfold cst
  by_cases q : rule = 0
  · rw [if_pos q, if_pos q, m]
  · rw [if_neg q, if_neg q, if_neg q, sm_s z1]
    have e1 : sm (ar D (eU e d p)) d.toNat = sm (ar D e) d.toNat := sm_co _ (fun i i0 i1 => ar_eU hD N6 z i0 (by omega))
    have e2 : ar D (eU e d p) d = mi D e d + stp D e d p := by
      rw [← m]
      unfold mi
      rw [if_neg (by omega), show d + 1 - 1 = d from by omega]
    rw [e1, e2]
theorem pre_e7 {e : Int → Int} {N d u : Int} (N6 : N ≤ 6) (z : mm_pfx e N d u) {j : Int} (j0 : 0 ≤ j) (j1 : j < d) : 0 ≤ e j ∧ e j < 7 := by
  have := z.2.2.1 j j0 j1
  omega
theorem ar_pb {D : Int → Int → Int} (hD : mm_D D) {e : Int → Int} {N d u j : Int} (N6 : N ≤ 6) (z : mm_pfx e N d u) (j0 : 0 ≤ j) (j1 : j < d) : 0 ≤ ar D e j ∧ ar D e j ≤ 1392 := by
  have := ar_b hD (e := e) j.toNat (fun i i0 i1 => pre_e7 N6 z i0 (by omega))
  rw [show ((j.toNat : Nat) : Int) = j from by omega] at this
  have := z.2.1
  omega
theorem mi_b {D : Int → Int → Int} (hD : mm_D D) {e : Int → Int} {N d u : Int} (N6 : N ≤ 6) (z : mm_pfx e N d u) : 0 ≤ mi D e d ∧ mi D e d ≤ 1392 := by
  unfold mi
  by_cases q : d = 0
  · rw [if_pos q]
    omega
  · rw [if_neg q]
    have := z.1
    exact ar_pb hD N6 z (by omega) (by omega)
theorem stp_b {D : Int → Int → Int} (hD : mm_D D) {e : Int → Int} {N d u p : Int} (N6 : N ≤ 6) (z : mm_pfx e N d u) (p0 : 0 ≤ p) (p7 : p < 7) : 0 ≤ stp D e d p ∧ stp D e d p ≤ 199 := by
  unfold stp
  by_cases q : d = 0
  · rw [if_pos q]
    have := hD 0 p (by omega) (by omega) p0 p7
    omega
  · rw [if_neg q]
    have z1 := z.1
    have v := pre_e7 N6 z (show 0 ≤ d - 1 by omega) (by omega)
    have := hD (e (d - 1)) p v.1 v.2 p0 p7
    omega
theorem cst_b {D : Int → Int → Int} (hD : mm_D D) {e : Int → Int} {N d u rule : Int} (N6 : N ≤ 6) (z : mm_pfx e N d u) : 0 ≤ cst rule D e d ∧ cst rule D e d ≤ 8352 := by
  have m := mi_b hD N6 z
  unfold cst
  by_cases q : rule = 0
  · rw [if_pos q]
    omega
  · rw [if_neg q]
    have z1 := z.1
    have z2 := z.2.1
    have := sm_b (A := ar D e) (c := 1392) d.toNat (fun i i0 i1 => ar_pb hD N6 z i0 (by omega))
    omega
/-- no way on from here is less than this -/
def lbd (rule : Int) (D : Int → Int → Int) (e : Int → Int) (N d : Int) : Int := cst rule D e d + if rule = 0 then 0 else (N - d) * mi D e d
theorem mul_le6 {k a b : Int} (k0 : 0 ≤ k) (ab : a ≤ b) : k * a ≤ k * b := Int.mul_le_mul_of_nonneg_left ab k0
theorem lbd_s {D : Int → Int → Int} (hD : mm_D D) {e : Int → Int} {N d u p rule : Int} (N6 : N ≤ 6) (z : mm_pfx e N d u) (dN : d < N) (p0 : 0 ≤ p) (p7 : p < 7) : lbd rule D e N d ≤ lbd rule D (eU e d p) N (d + 1) := by
  have s := stp_b hD N6 z p0 p7
  unfold lbd
  rw [cst_eU hD N6 z, mi_eU hD N6 z]
  by_cases q : rule = 0
  · rw [if_pos q, if_pos q, if_pos q]
    unfold cst
    rw [if_pos q]
    omega
  · rw [if_neg q, if_neg q, if_neg q]
    have t : (N - d) * mi D e d ≤ (N - d) * (mi D e d + stp D e d p) := mul_le6 (by omega) (by omega)
    have t2 : (N - d) * (mi D e d + stp D e d p) = (N - (d + 1)) * (mi D e d + stp D e d p) + (mi D e d + stp D e d p) := by
      rw [show N - d = (N - (d + 1)) + 1 from by omega, Int.add_mul, Int.one_mul]
    omega
/-! the reference's leaf -/
theorem s_keep (f : mm_M) (n7 : f 47 35 ≤ 7) : ∃ f', mm_call mX10_keepRoute [vR 47] f = some ([], f') ∧ (∀ c, c ≠ 70 → f' c = f c) ∧ ∀ j : Int, 0 ≤ j → j < f 47 35 → f' 70 j = f 68 j := by
  have L : ∀ (m : Nat) (k : Int) (x : mm_M), 0 ≤ k → f 47 35 - k ≤ m → (∀ c, c ≠ 70 → x c = f c) → (∀ j : Int, 0 ≤ j → j < k → x 70 j = f 68 j) → ∃ f', mm_ev mX10_keepRoute 1 2 [some (vR 47), some (vI k)] [] x = some ([], f') ∧ (∀ c, c ≠ 70 → f' c = f c) ∧ ∀ j : Int, 0 ≤ j → j < f 47 35 → f' 70 j = f 68 j := by
    intro m
    induction m with
    | zero =>
      intro k x k0 km hx hj
      refine ⟨x, ?_, hx, fun j j0 j1 => hj j j0 (by omega)⟩
      rw [X10_keepRoute_2, hx 47 (by decide), if_pos (by omega)]
    | succ m ih =>
      intro k x k0 km hx hj
      by_cases q : f 47 35 ≤ k
      · refine ⟨x, ?_, hx, fun j j0 j1 => hj j j0 (by omega)⟩
        rw [X10_keepRoute_2, hx 47 (by decide), if_pos q]
      · have w4 : w32 (k + 1) = k + 1 := w32_id (by unfold mm_r32; omega)
        obtain ⟨f', a1, a2, a3⟩ := ih (k + 1) (mUp x 70 k (x 68 k)) (by omega) (by omega) (fun c hc => by rw [mUp_ne hc, hx c hc]) (fun j j0 j1 => by
          by_cases w : j = k
          · rw [w, mUp_self, hx 68 (by decide)]
          · rw [mUp_nei w]
            exact hj j j0 (by omega))
        refine ⟨f', ?_, a2, a3⟩
        rw [X10_keepRoute_2, hx 47 (by decide), if_neg q, if_pos (by omega), if_pos (by omega), w4]
        exact a1
  rw [X10_keepRoute_c]
  exact L 7 0 f (by omega) (by omega) (fun _ _ => rfl) (fun j j0 j1 => by omega)
/-- the reference at a way of d posts -/
def mm_rS (f : mm_M) (D : Int → Int → Int) (e : Int → Int) (N d : Int) : Prop := f 47 35 = d ∧ (∀ j : Int, 0 ≤ j → j < d → f 68 j = e j) ∧ (0 ≤ f 47 12 ∧ f 47 12 ≤ 999) ∧ (∀ i : Int, 0 ≤ i → i < 7 → (0 ≤ f 48 i ∧ f 48 i ≤ 99) ∧ 0 ≤ f 49 i ∧ f 49 i ≤ 99) ∧ (∀ p q : Int, 0 ≤ p → p < 7 → 0 ≤ q → q < 7 → rDi f p q = D p q) ∧ (f 47 1 = N + 1 ∨ (f 47 1 = 0 ∧ N = 0))
def mm_rF (f f' : mm_M) (d : Int) : Prop := (∀ c i, c ≠ 68 → c ≠ 69 → c ≠ 70 → ¬ (c = 47 ∧ (i = 35 ∨ i = 38 ∨ i = 39)) → f' c i = f c i) ∧ f' 47 35 = f 47 35 ∧ ∀ j : Int, j < d → f' 68 j = f 68 j
theorem mm_rF.rf {f : mm_M} {d : Int} : mm_rF f f d := ⟨fun _ _ _ _ _ _ => rfl, rfl, fun _ _ => rfl⟩
theorem mm_rF.tr {f g h : mm_M} {d : Int} (a : mm_rF f g d) (b : mm_rF g h d) : mm_rF f h d := ⟨fun c i q1 q2 q3 q4 => (b.1 c i q1 q2 q3 q4).trans (a.1 c i q1 q2 q3 q4), b.2.1.trans a.2.1, fun j hj => (b.2.2 j hj).trans (a.2.2 j hj)⟩
theorem mm_rS.fr {f f' : mm_M} {D : Int → Int → Int} {e : Int → Int} {N d : Int} (z : mm_rS f D e N d) (h : mm_rF f f' d) : mm_rS f' D e N d := by
  obtain ⟨z1, z2, z3, z4, z5, z6⟩ := z
  obtain ⟨h1, h2, h3⟩ := h
  have e48 : ∀ i, f' 48 i = f 48 i := fun i => h1 48 i (by decide) (by decide) (by decide) (by omega)
  have e49 : ∀ i, f' 49 i = f 49 i := fun i => h1 49 i (by decide) (by decide) (by decide) (by omega)
  refine ⟨by rw [h2]; exact z1, fun j j0 j1 => by rw [h3 j j1]; exact z2 j j0 j1, by rw [h1 47 12 (by decide) (by decide) (by decide) (by omega)]; exact z3, fun i i0 i1 => by rw [e48, e49]; exact z4 i i0 i1, fun p q p0 p7 q0 q7 => ?_, by rw [h1 47 1 (by decide) (by decide) (by decide) (by omega)]; exact z6⟩
  rw [← z5 p q p0 p7 q0 q7]
  unfold rDi
  rw [e48, e48, e49, e49]
/-- at a whole way: what the reference reckons -/
theorem s_leaf (f : mm_M) (D : Int → Int → Int) (hD : mm_D D) (e : Int → Int) (N u rule sh : Int) (N6 : N ≤ 6) (hr : rule = 0 ∨ rule = 1) (z : mm_pfx e N N u) (hS : mm_rS f D e N N) : ∃ f1, mm_call mX10_metRoute [vR 47, vI rule, vI sh] f = mm_ev mX10_metRoute 5 60 [some (vR 47), some (vI rule), some (vI sh), none] [vI (cst rule D e N)] f1 ∧ (∀ c, c ≠ 69 → f1 c = f c) := by
  obtain ⟨z1, z2, z3, z4, z5, z6⟩ := hS
  have N0 := z.1
  obtain ⟨f1, a1, a2, a3, a4, a5⟩ := s_goR f (by omega) (fun j j0 j1 => by rw [z2 j j0 (by omega)]; have := z.2.2.1 j j0 (by omega); omega) (fun i j i0 ij j1 => by rw [z2 i i0 (by omega), z2 j (by omega) (by omega)]; exact z.2.2.2.1 i j i0 ij (by omega)) z3 z4
  have f35 : f1 47 35 = N := by rw [a2 47 (by decide)]; exact z1
  have f12 : f1 47 12 = f 47 12 := by rw [a2 47 (by decide)]
  have hA : ∀ j : Int, 0 ≤ j → j < f1 47 35 → (0 < f1 68 j ∧ f1 68 j < 7) ∧ f1 69 (f1 68 j) = f1 47 12 + ar D e j ∧ 0 ≤ ar D e j ∧ ar D e j ≤ 1392 ∧ (0 < j → ar D e (j - 1) < ar D e j) := fun j j0 j1 => by
    have v := z.2.2.1 j j0 (by omega)
    have b := ar_pb hD N6 z j0 (show j < N by omega)
    have e1 : f1 68 j = e j := by rw [a2 68 (by decide)]; exact z2 j j0 (by omega)
    have e2 := a4 j j0 (by omega)
    have e3 : ar (rDi f) (f 68) j = ar D e j := ar_co j0 z5 (fun i i0 i1 => by
      have := z.2.2.1 i i0 (by omega)
      exact ⟨z2 i i0 (by omega), by omega, by omega⟩)
    rw [z2 j j0 (by omega), e3] at e2
    rw [e1, f12]
    refine ⟨by omega, e2, b.1, b.2, fun w => ?_⟩
    have t := ar1 D e (j - 1) (by omega)
    rw [show j - 1 + 1 = j from by omega] at t
    have v2 := z.2.2.1 (j - 1) (by omega) (by omega)
    have := hD (e (j - 1)) (e j) (by omega) (by omega) (by omega) (by omega)
    omega
  refine ⟨f1, ?_, a2⟩
  rw [X10_metRoute_c, a1, mm_be0, X10_metRoute_4]
  rcases hr with hr | hr
  · subst hr
    have l := s_latest f1 (ar D e) (by omega) (by omega) hA
    rw [if_pos (by decide), if_neg (by decide), l, mm_be1, X10_metRoute_48]
    have c : w32 (f1 47 12 + (if f1 47 35 = 0 then 0 else ar D e (f1 47 35 - 1)) - f1 47 12) = cst 0 D e N := by
      have m := mi_b hD N6 z
      have e : (if f1 47 35 = 0 then 0 else ar D e (f1 47 35 - 1)) = mi D e N := by
        rw [f35]
        rfl
      rw [e, w32_id (by unfold mm_r32; omega)]
      show _ = mi D _ N
      omega
    rw [c]
  · subst hr
    have l := s_together f1 (ar D e) (by omega) (by omega) (fun j j0 j1 => by
      obtain ⟨x1, x2, x3, x4, x5⟩ := hA j j0 j1
      exact ⟨x1, x2, x3, x4⟩)
    rw [if_pos (by decide), if_pos (by decide), l, mm_be1, f35]
    rfl
