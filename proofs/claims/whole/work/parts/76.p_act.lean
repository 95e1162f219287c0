/-! act: the reference, and the pair -/
def mm_ar (f : mm_M) (K b : Int) : Prop := (0 ≤ b ∧ b < 50) ∧ f 77 b = K ∧ (0 ≤ K ∧ K < 8) ∧ f 47 51 = 0
theorem tR_cons (h : mm_M) (c : Int) (l : List Int) : rR (tR h l) c = tR h (c :: l) := rfl
section RA
variable {f : mm_M} {K b : Int}
theorem ra_k (A : mm_ar f K b) (l : List Int) : tR f l 77 b = K := by
  rw [tR_fr f 77 b (by decide) (by omega)]
  exact A.2.1
theorem ra_ran (A : mm_ar f K b) (l : List Int) (hl : l.length ≤ 900) (c : Int) : mm_call mX10_ran [vR 47, vI c] (tR f l) = some ([], tR f (c :: l)) := by
  have n := tR_n f A.2.2.2 l (by omega)
  rw [X10_ran_c, ← tR_cons]
  unfold rR
  by_cases q : 24 ≤ tR f l 47 51
  · rw [if_pos q, if_neg (by omega), X10_ran_19]
  · rw [if_neg q, if_pos (by omega), if_pos (by omega), X10_ran_19, mUp_ne (show (47 : Nat) ≠ 78 by decide)]
theorem ra_ps (A : mm_ar f K b) (l : List Int) (hl : l.length ≤ 890) (x : Int) : mm_call mX10_plainSays [vR 47, vI b, vI x] (tR f l) = some ([vI (w32 (x + b))], tR f (1 :: l)) := by
  rw [X10_plainSays_c, ra_ran A l (by omega), mm_be0, X10_plainSays_5]
theorem ra_ss (A : mm_ar f K b) (l : List Int) (hl : l.length ≤ 880) (x : Int) : mm_call mX10_strangerSays [vR 47, vI b, vI x] (tR f l) = some ([vI (w32 (w32 (x + b) * 2))], tR f (1 :: 70 :: l)) := by
  rw [X10_strangerSays_c, ra_ran A l (by omega), mm_be0, X10_strangerSays_6, ra_ps A (70 :: l) (by simp; omega), mm_be1, X10_strangerSays_12]
theorem ra_u1 (g : mm_M) (hK : 0 ≤ K ∧ K < 8) : mm_call mX10_isUnder [vI K, vI 1] g = some ([vI (if K = 1 ∨ K = 4 then 1 else 0)], g) := by
  rw [m_under]
  by_cases q : K = 1 ∨ K = 4
  · rw [if_pos q, if_pos (by omega)]
  · rw [if_neg q, if_neg (by omega)]
theorem ra_u3 (g : mm_M) (hK : 0 ≤ K ∧ K < 8) : mm_call mX10_isUnder [vI K, vI 3] g = some ([vI (if K = 3 ∨ K = 5 then 1 else 0)], g) := by
  rw [m_under]
  by_cases q : K = 3 ∨ K = 5
  · rw [if_pos q, if_pos (by omega)]
  · rw [if_neg q, if_neg (by omega)]
theorem ra_S (A : mm_ar f K b) (l : List Int) (hl : l.length ≤ 870) (x : Int) : mm_call mX10_saying [vR 47, vI b, vI x] (tR f l) = some ([vI (vS K b x)], tR f (tS K ++ l)) := by
  have b5 := A.1
  have kk := A.2.2.1
  rw [X10_saying_c, if_pos b5, ra_k A l, ra_u1 _ kk, mm_be1, X10_saying_10]
  by_cases q : K = 1 ∨ K = 4
  · rw [if_pos q, if_neg (by decide), ra_ran A l (by omega), mm_be0, X10_saying_19, ra_ps A (20 :: l) (by simp; omega), mm_be1, X10_saying_25]
    unfold vS tS
    rw [if_pos q, if_pos q]
    rfl
  · rw [if_neg q, if_pos rfl, if_pos b5, ra_k A l]
    unfold vS tS
    rw [if_neg q, if_neg q]
    by_cases q7 : K = 7
    · rw [if_neg (fun w => w q7), ra_ran A l (by omega), mm_be0, X10_saying_45, ra_ss A (81 :: l) (by simp; omega), mm_be1, X10_saying_51, if_pos q7, if_pos q7]
      rfl
    · rw [if_pos q7, if_pos b5, if_neg q7, if_neg q7]
      by_cases q6 : K = 6
      · rw [if_neg (fun w => w q6), ra_ss A l (by omega), mm_be1, X10_saying_71, X10_saying_80, if_pos q6, if_pos q6]
        rfl
      · rw [if_pos q6, ra_ps A l (by omega), mm_be1, X10_saying_80, if_neg q6, if_neg q6]
        rfl
theorem ra_ph (A : mm_ar f K b) (l : List Int) (hl : l.length ≤ 860) (x : Int) : mm_call mX10_plainHears [vR 47, vI b, vI x] (tR f l) = some ([vI (w32 (vS K b x * 2))], tR f (tS K ++ (10 :: l))) := by
  rw [X10_plainHears_c, ra_ran A l (by omega), mm_be0, X10_plainHears_6, ra_S A (10 :: l) (by simp; omega), mm_be1, X10_plainHears_12]
theorem ra_lh (A : mm_ar f K b) (l : List Int) (hl : l.length ≤ 850) (x : Int) : mm_call mX10_latherHears [vR 47, vI b, vI x] (tR f l) = some ([vI (w32 (-(w32 (vS K b x * 2))))], tR f (tS K ++ (10 :: 30 :: l))) := by
  rw [X10_latherHears_c, ra_ran A l (by omega), mm_be0, X10_latherHears_6, ra_ph A (30 :: l) (by simp; omega), mm_be1, X10_latherHears_12]
theorem ra_po (A : mm_ar f K b) (l : List Int) (hl : l.length ≤ 880) (x : Int) : mm_call mX10_plainHolds [vR 47, vI b, vI x] (tR f l) = some ([vI (iXor x b)], tR f (11 :: l)) := by
  rw [X10_plainHolds_c, ra_ran A l (by omega), mm_be0, X10_plainHolds_6]
theorem ra_ro (A : mm_ar f K b) (l : List Int) (hl : l.length ≤ 870) (x : Int) : mm_call mX10_runnerHolds [vR 47, vI b, vI x] (tR f l) = some ([vI (w32 (iXor x b * 3))], tR f (11 :: 40 :: l)) := by
  rw [X10_runnerHolds_c, ra_ran A l (by omega), mm_be0, X10_runnerHolds_6, ra_po A (40 :: l) (by simp; omega), mm_be1, X10_runnerHolds_12]
theorem ra_O (A : mm_ar f K b) (l : List Int) (hl : l.length ≤ 850) (x : Int) : mm_call mX10_holding [vR 47, vI b, vI x] (tR f l) = some ([vI (vO K K b x)], tR f (tO K K ++ l)) := by
  have b5 := A.1
  rw [X10_holding_c, if_pos b5, ra_k A l]
  unfold vO tO
  by_cases q5 : K = 5
  · rw [if_neg (fun w => w q5), ra_ran A l (by omega), mm_be0, X10_holding_16, ra_ro A (60 :: l) (by simp; omega), mm_be1, X10_holding_22, ra_S A (11 :: 40 :: 60 :: l) (by simp; omega), mm_be1, X10_holding_30, if_pos q5, if_pos q5, List.append_assoc]
    rfl
  · rw [if_pos q5, if_pos b5, if_neg q5, if_neg q5]
    by_cases q3 : K = 3
    · rw [if_neg (fun w => w q3), ra_ro A l (by omega), mm_be1, X10_holding_48, X10_holding_57, if_pos q3, if_pos q3]
      rfl
    · rw [if_pos q3, ra_po A l (by omega), mm_be1, X10_holding_57, if_neg q3, if_neg q3]
      rfl
theorem ra_H (A : mm_ar f K b) (l : List Int) (hl : l.length ≤ 820) (x : Int) : mm_call mX10_hearing [vR 47, vI b, vI x] (tR f l) = some ([vI (vH K K b x)], tR f (tH' K K ++ l)) := by
  have b5 := A.1
  have kk := A.2.2.1
  have sl := tS_l K
  rw [X10_hearing_c, if_pos b5, ra_k A l, ra_u3 _ kk, mm_be1, X10_hearing_10]
  unfold vH tH'
  by_cases q : K = 3 ∨ K = 5
  · rw [if_pos q, if_neg (by decide), ra_ran A l (by omega), mm_be0, X10_hearing_19, ra_lh A (41 :: l) (by simp; omega), mm_be1, X10_hearing_27, if_pos q, if_pos q, List.append_assoc]
    rfl
  · rw [if_neg q, if_pos rfl, if_pos b5, ra_k A l, if_neg q, if_neg q]
    by_cases q7 : K = 7
    · rw [if_neg (fun w => w q7), ra_ran A l (by omega), mm_be0, X10_hearing_45, ra_ph A (80 :: l) (by simp; omega), mm_be1, X10_hearing_51, ra_O A (tS K ++ (10 :: 80 :: l)) (by simp; omega), mm_be1, X10_hearing_59, if_pos q7, if_pos q7, List.append_assoc, List.append_assoc]
      rfl
    · rw [if_pos q7, if_pos b5, if_neg q7, if_neg q7]
      by_cases q2 : K = 2
      · rw [if_neg (fun w => w q2), ra_lh A l (by omega), mm_be1, X10_hearing_77, X10_hearing_86, if_pos q2, if_pos q2, List.append_assoc]
        rfl
      · rw [if_pos q2, ra_ph A l (by omega), mm_be1, X10_hearing_86, if_neg q2, if_neg q2, List.append_assoc]
        rfl
theorem ra_P (A : mm_ar f K b) (l : List Int) (hl : l.length ≤ 780) (x : Int) : mm_call mX10_plainTells [vR 47, vI b, vI x] (tR f l) = some ([vI (vP K b x)], tR f (tP K ++ l)) := by
  have hH := tH_l K K
  rw [X10_plainTells_c, ra_ran A l (by omega), mm_be0, X10_plainTells_5, ra_H A (2 :: l) (by simp; omega), mm_be1, X10_plainTells_11, ra_O A (tH' K K ++ (2 :: l)) (by simp; omega), mm_be1, X10_plainTells_19]
  show some ([vI (vP K b x)], tR f (tO K K ++ (tH' K K ++ (2 :: l)))) = some ([vI (vP K b x)], tR f ((tO K K ++ (tH' K K ++ [2])) ++ l))
  rw [List.append_assoc, List.append_assoc]
  rfl
theorem ra_T (A : mm_ar f K b) (l : List Int) (hl : l.length ≤ 770) (x : Int) : mm_call mX10_telling [vR 47, vI b, vI x] (tR f l) = some ([vI (vT K K b x)], tR f (tT K K ++ l)) := by
  have b5 := A.1
  rw [X10_telling_c, if_pos b5, ra_k A l]
  unfold vT tT
  by_cases q4 : K = 4
  · rw [if_neg (fun w => w q4), ra_ran A l (by omega), mm_be0, X10_telling_16, ra_P A (50 :: l) (by simp; omega), mm_be1, X10_telling_22, if_pos q4, if_pos q4, List.append_assoc]
    rfl
  · rw [if_pos q4, if_pos b5, if_neg q4, if_neg q4]
    by_cases q5 : K = 5
    · rw [if_neg (fun w => w q5), ra_ran A l (by omega), mm_be0, X10_telling_41, ra_P A (61 :: l) (by simp; omega), mm_be1, X10_telling_47, if_pos q5, if_pos q5, List.append_assoc]
      rfl
    · rw [if_pos q5, ra_P A l (by omega), mm_be1, X10_telling_56, if_neg q5, if_neg q5]
end RA
theorem tC_Inv (h f : mm_M) (h1 : mm_M) (l : List Int) (b : Int) (hI : mm_Inv h) (e1 : ∀ c i, c ≠ 45 → ¬ (c = 10 ∧ (i = 1 ∨ i = 4)) → c ≠ 78 → ¬ (c = 47 ∧ i = 51) → f c i = h c i) (c1 : f 10 1 = l.length) (c2 : f 47 51 = l.length) (hl : l.length ≤ 1000) (tr : ∀ i : Int, 0 ≤ i → i < l.length → i < 24 → f 78 i = f 45 i) : mm_Inv f := by
  obtain ⟨z1, z2, z3, z4, ⟨b1, b2, b3, b4, b5, b6, b7, b8⟩, z6, z7, z8⟩ := hI
  have fr : ∀ {d : Nat → Int → Bool}, (∀ i, d 45 i = false) → (∀ i, d 78 i = false) → d 10 1 = false → d 10 4 = false → d 47 51 = false → ∀ c i, d c i = true → f c i = h c i := by
    intro d q1 q2 q3 q4 q5 c i w
    refine e1 c i (fun e => by rw [e, q1] at w; cases w) (fun e => ?_) (fun e => by rw [e, q2] at w; cases w) (fun e => by rw [e.1, e.2, q5] at w; cases w)
    rcases e.2 with e2 | e2
    · rw [e.1, e2, q3] at w
      cases w
    · rw [e.1, e2, q4] at w
      cases w
  refine ⟨mm_RN_co (fr (fun _ => rfl) (fun _ => rfl) rfl rfl rfl) z1, mm_RU_co (fr (fun _ => rfl) (fun _ => rfl) rfl rfl rfl) z2, mm_RD_co (fr (fun _ => rfl) (fun _ => rfl) rfl rfl rfl) z3, mm_RI_co (fr (fun _ => rfl) (fun _ => rfl) rfl rfl rfl) z4, ?_, mm_RS_co (fr (fun _ => rfl) (fun _ => rfl) rfl rfl rfl) z6, mm_RT_co (fr (fun _ => rfl) (fun _ => rfl) rfl rfl rfl) z7, mm_RL_co (fr (fun _ => rfl) (fun _ => rfl) rfl rfl rfl) z8⟩
  unfold mm_RB
  rw [e1 47 49 (by decide) (by omega) (by decide) (by omega), e1 10 0 (by decide) (by omega) (by decide) (by omega), c1, c2]
  refine ⟨b1, b2, b3, fun i i0 i1 => ?_, rfl, by omega, by omega, fun i i0 i1 i2 => tr i i0 i1 i2⟩
  rw [e1 77 i (by decide) (by omega) (by decide) (by omega), e1 46 i (by decide) (by omega) (by decide) (by omega)]
  exact b4 i i0 i1
theorem p_act (h : mm_M) (b a x : Int) (hI : mm_Inv h) : mm_Pr mX9_act mX10_act [vI b, vI a, vI x] h mm_Inv := by
  obtain ⟨z1, z2, z3, z4, ⟨b1, b2, b3, b4, b5, b6, b7, b8⟩, z6, z7, z8⟩ := id hI
  have eK : ∀ g : mm_M, mm_call mX0_kindOf [vR 10, vI b] (mUp g 10 1 0) = if 0 ≤ b ∧ b < g 10 0 then (if b < 50 then some ([vI (g 46 b)], mUp g 10 1 0) else none) else some ([vI (-1)], mUp g 10 1 0) := fun g => by
    rw [X0_kindOf_c, mUp_nei (show (0 : Int) ≠ 1 by decide), mUp_ne (show (46 : Nat) ≠ 10 by decide)]
    by_cases q1 : b < 0
    · rw [if_pos q1, if_neg (by omega)]
    · rw [if_neg q1]
      by_cases q2 : g 10 0 ≤ b
      · rw [if_pos q2, if_neg (by omega)]
      · rw [if_neg q2, if_pos (⟨by omega, by omega⟩ : 0 ≤ b ∧ b < g 10 0)]
        by_cases q3 : b < 50
        · rw [if_pos (⟨by omega, q3⟩ : 0 ≤ b ∧ b < 50), if_pos q3]
        · rw [if_neg (fun w : 0 ≤ b ∧ b < 50 => q3 w.2), if_neg q3]
  have eB : ∀ g : mm_M, g 47 49 = h 10 0 → mm_call mX10_isBody [vR 47, vI b] g = some ([vI (if 0 ≤ b ∧ b < h 10 0 then 1 else 0)], g) := fun g e => by
    have w1 : w32 (h 10 0 - 1) = h 10 0 - 1 := w32_id (by unfold mm_r32; omega)
    rw [s_isBody, e, w1]
    by_cases q : 0 ≤ b ∧ b < h 10 0
    · rw [if_pos (by omega), if_pos q]
    · rw [if_neg (by omega), if_neg q]
  by_cases z : (0 ≤ b ∧ b < h 10 0) ∧ 0 ≤ a ∧ a < 4
  · obtain ⟨zb, za⟩ := z
    have bb : b < 50 := by omega
    obtain ⟨k1, k2, k3⟩ := b4 b zb.1 zb.2
    have hA : mm_ac (mUp (mUp h 10 1 0) 10 4 b) (h 46 b) b := by
      refine ⟨mUp_self _ _ _ _, ?_, ?_, ⟨k2, k3⟩, ?_⟩
      · rw [mUp_nei (by decide), mUp_nei (by decide)]
        exact ⟨zb.1, zb.2, bb⟩
      · rw [mUp_ne (by decide), mUp_ne (by decide)]
      · rw [mUp_nei (by decide), mUp_self]
    have C : ∃ (v : Int) (l : List Int), l.length ≤ 40 ∧ mm_call mX0_runFrom [vR 10, vI (h 46 b), vI a, vI x, vI 0] (mUp (mUp h 10 1 0) 10 4 b) = some ([vI v], tC (mUp (mUp h 10 1 0) 10 4 b) l) ∧ ∀ f : mm_M, mm_ar f (h 46 b) b → (a = 0 → mm_call mX10_saying [vR 47, vI b, vI x] f = some ([vI v], tR f l)) ∧ (a = 1 → mm_call mX10_hearing [vR 47, vI b, vI x] f = some ([vI v], tR f l)) ∧ (a = 2 → mm_call mX10_holding [vR 47, vI b, vI x] f = some ([vI v], tR f l)) ∧ (a = 3 → mm_call mX10_telling [vR 47, vI b, vI x] f = some ([vI v], tR f l)) := by
      have ln := tS_l (h 46 b)
      have ln2 := tO_l (h 46 b) (h 46 b)
      have ln3 := tH_l (h 46 b) (h 46 b)
      have ln4 := tT_l (h 46 b) (h 46 b)
      have aa : a = 0 ∨ a = 1 ∨ a = 2 ∨ a = 3 := by omega
      rcases aa with rfl | rfl | rfl | rfl
      · refine ⟨_, tS (h 46 b) ++ [], by simp; omega, ca_S hA [] (by simp) (h 46 b) x 0 ⟨k2, k3⟩ (by decide), fun f A => ⟨fun _ => ra_S A [] (by simp) x, fun w => absurd w (by decide), fun w => absurd w (by decide), fun w => absurd w (by decide)⟩⟩
      · refine ⟨_, tH' (h 46 b) (h 46 b) ++ [], by simp; omega, ca_H hA [] (by simp) (h 46 b) x 0 ⟨k2, k3⟩ (by decide), fun f A => ⟨fun w => absurd w (by decide), fun _ => ra_H A [] (by simp) x, fun w => absurd w (by decide), fun w => absurd w (by decide)⟩⟩
      · refine ⟨_, tO (h 46 b) (h 46 b) ++ [], by simp; omega, ca_O hA [] (by simp) (h 46 b) x 0 ⟨k2, k3⟩ (by decide), fun f A => ⟨fun w => absurd w (by decide), fun w => absurd w (by decide), fun _ => ra_O A [] (by simp) x, fun w => absurd w (by decide)⟩⟩
      · refine ⟨_, tT (h 46 b) (h 46 b) ++ [], by simp; omega, ca_T hA [] (by simp) (h 46 b) x 0 ⟨k2, k3⟩ (by decide), fun f A => ⟨fun w => absurd w (by decide), fun w => absurd w (by decide), fun w => absurd w (by decide), fun _ => ra_T A [] (by simp) x⟩⟩
    obtain ⟨v, l, l4, c1, c2⟩ := C
    have c3 := ca_own hA [] a x 0 v _ (by decide) c1
    have eC : mm_call mX9_act [vR 0, vI b, vI a, vI x] h = some ([vI v], tC (mUp (mUp h 10 1 0) 10 4 b) l) := by
      rw [X9_act_c, X0_perform_c, eK h, if_pos zb, if_pos bb, mm_be1, X0_perform_10, if_neg (by omega), if_neg (by omega), if_pos (by omega), if_pos (by decide)]
      rw [show mm_call mX0_own [vR 10, vI a, vI x, vI 0] (mUp (mUp h 10 1 0) 10 4 b) = _ from c3, mm_be1, X0_perform_36, mm_be1, X9_act_10]
    have g0 : ∀ c i, c ≠ 45 → ¬ (c = 10 ∧ (i = 1 ∨ i = 4)) → tC (mUp (mUp h 10 1 0) 10 4 b) l c i = h c i := fun c i q1 q2 => by
      rw [tC_fr _ c i q1 (by omega), mUp_at, if_neg (by omega), mUp_at, if_neg (by omega)]
    have fA : mm_ar (mUp (tC (mUp (mUp h 10 1 0) 10 4 b) l) 47 51 0) (h 46 b) b := by
      refine ⟨⟨zb.1, bb⟩, ?_, ⟨k2, k3⟩, mUp_self _ _ _ _⟩
      rw [mUp_ne (by decide), g0 77 b (by decide) (by omega)]
      exact k1
    obtain ⟨d0, d1, d2, d3⟩ := c2 _ fA
    have eR : mm_call mX10_act [vR 47, vI b, vI a, vI x] (tC (mUp (mUp h 10 1 0) 10 4 b) l) = some ([vI v], tR (mUp (tC (mUp (mUp h 10 1 0) 10 4 b) l) 47 51 0) l) := by
      rw [X10_act_c, eB _ (by rw [mUp_nei (show (49 : Int) ≠ 51 by decide), g0 47 49 (by decide) (by omega)]; exact b1), if_pos zb, mm_be1, X10_act_10, if_neg (by decide), s_in, if_pos (by omega), mm_be1, X10_act_19, if_pos (by decide)]
      by_cases q0 : a = 0
      · rw [if_neg (fun w => w q0), d0 q0, mm_be1, X10_act_34, X10_act_71]
      · rw [if_pos q0]
        by_cases q1 : a = 1
        · rw [if_neg (fun w => w q1), d1 q1, mm_be1, X10_act_48, X10_act_71]
        · rw [if_pos q1]
          by_cases q2 : a = 2
          · rw [if_neg (fun w => w q2), d2 q2, mm_be1, X10_act_62, X10_act_71]
          · rw [if_pos q2, d3 (by omega), mm_be1, X10_act_71]
    refine mm_Pr.of eC eR (tC_Inv h _ h l b hI (fun c i q1 q2 q3 q4 => ?_) ?_ ?_ (by omega) (fun i i0 i1 i2 => ?_))
    · rw [tR_fr _ c i q3 q4, mUp_at, if_neg q4, g0 c i q1 q2]
    · rw [tR_fr _ 10 1 (by decide) (by decide), mUp_ne (by decide), tC_n _ hA.2.2.2.2 l (by omega)]
    · exact tR_n _ fA.2.2.2 l (by omega)
    · rw [t_both _ _ hA.2.2.2.2 fA.2.2.2 l (by omega) i i0 i1 i2, tR_fr _ 45 i (by decide) (by omega), mUp_ne (by decide)]
  · refine mm_Pr.of (v := vI 0) (h1 := mUp h 10 1 0) (h2 := mUp (mUp h 10 1 0) 47 51 0) ?_ ?_ (tC_Inv h _ h [] b hI (fun c i q1 q2 q3 q4 => by rw [mUp_at, if_neg q4, mUp_at, if_neg (by omega)]) rfl rfl (by simp) (fun i i0 i1 => by simp at i1; omega))
    · rw [X9_act_c, X0_perform_c, eK h]
      by_cases zb : 0 ≤ b ∧ b < h 10 0
      · obtain ⟨k1, k2, k3⟩ := b4 b zb.1 zb.2
        rw [if_pos zb, if_pos (by omega), mm_be1, X0_perform_10, if_neg (by omega)]
        by_cases q1 : a < 0
        · rw [if_pos q1, mm_be1, X9_act_10]
        · rw [if_neg q1, if_neg (by omega), mm_be1, X9_act_10]
      · rw [if_neg zb, mm_be1, X0_perform_10, if_pos (by decide), mm_be1, X9_act_10]
    · rw [X10_act_c, eB _ (by rw [mUp_nei (show (49 : Int) ≠ 51 by decide), mUp_ne (by decide)]; exact b1), mm_be1, X10_act_10]
      by_cases zb : 0 ≤ b ∧ b < h 10 0
      · rw [if_pos zb, if_neg (by decide), s_in, if_neg (by omega), mm_be1, X10_act_19, if_neg (fun w => w rfl)]
      · rw [if_neg zb, if_pos rfl]
