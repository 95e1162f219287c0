/-! twice: the pair -/
def tV (h : mm_M) (w : Int) (e : Int → Int) (n u : Int) : Int := prN (vRt h w e u) n.toNat
theorem c_best (h x : mm_M) (w : Int) (e : Int → Int) (n due : Int) (wt : mm_wt h x w e n) (n0 : 0 ≤ n ∧ n ≤ 6) (x4 : x 4 0 = n) (x23 : ∀ j : Int, 0 ≤ j → j < n → x 23 j = e j ∧ 0 ≤ e j ∧ e j < 7) : mm_call mX1_bestSet [vR 6, vR 4, vI due] x = some ([vI (if bsS (mkN e n.toNat) due (tV h w e n) 128 < 0 then 0 else bsS (mkN e n.toNat) due (tV h w e n) 128)], x) := by
  have L1 : ∀ (c : Nat) (k : Int), 0 ≤ k → k ≤ n → n - k ≤ c → mm_ev mX1_bestSet 3 5 [some (vR 6), some (vR 4), some (vI due), some (vI (mkN e k.toNat)), some (vI k), none, none, none] [] x = mm_ev mX1_bestSet 3 43 [some (vR 6), some (vR 4), some (vI due), some (vI (mkN e n.toNat)), some (vI 0), some (vL (-1)), none, some (vI 0)] [] x := by
    intro c
    induction c with
    | zero =>
      intro k k0 k1 kc
      rw [X1_bestSet_5, x4, if_pos (by omega), show k = n from by omega]
    | succ c ih =>
      intro k k0 k1 kc
      by_cases q : n ≤ k
      · rw [X1_bestSet_5, x4, if_pos q, show k = n from by omega]
      · have w4 : w32 (k + 1) = k + 1 := w32_id (by unfold mm_r32; omega)
        have e1 : iOr (mkN e k.toNat) (iShl 1 (e k)) = mkN e (k + 1).toNat := by
          rw [show (k + 1).toNat = k.toNat + 1 from by omega]
          show _ = iOr (mkN e k.toNat) (iShl 1 (e (k.toNat : Int)))
          rw [show (k.toNat : Int) = k from by omega]
        rw [X1_bestSet_5, x4, if_neg q, if_pos (by omega), (x23 k k0 (by omega)).1, e1, w4]
        exact ih (k + 1) (by omega) (by omega) (by omega)
  have L2 : ∀ (c : Nat) (k a b : Int), 0 ≤ k → k ≤ 128 → 128 - k ≤ c → (a = if bsS (mkN e n.toNat) due (tV h w e n) k.toNat < 0 then 0 else bsS (mkN e n.toNat) due (tV h w e n) k.toNat) → (b = if bsS (mkN e n.toNat) due (tV h w e n) k.toNat < 0 then -1 else tV h w e n (bsS (mkN e n.toNat) due (tV h w e n) k.toNat)) → mm_ev mX1_bestSet 3 43 [some (vR 6), some (vR 4), some (vI due), some (vI (mkN e n.toNat)), some (vI a), some (vL b), none, some (vI k)] [] x = some ([vI (if bsS (mkN e n.toNat) due (tV h w e n) 128 < 0 then 0 else bsS (mkN e n.toNat) due (tV h w e n) 128)], x) := by
    intro c
    induction c with
    | zero =>
      intro k a b k0 k1 kc ha hb
      have : k = 128 := by omega
      subst this
      rw [X1_bestSet_43, if_pos (by decide), ha]
      rfl
    | succ c ih =>
      intro k a b k0 k1 kc ha hb
      by_cases q : k = 128
      · subst q
        rw [X1_bestSet_43, if_pos (by decide), ha]
        rfl
      · have w4 : w32 (k + 1) = k + 1 := w32_id (by unfold mm_r32; omega)
        have sb := bsS_s (mkN e n.toNat) due (tV h w e n) k0
        have vb : 0 ≤ tV h w e n k := (prN_6 (A := vRt h w e k) n.toNat (by omega) (fun i i0 i1 => vRt_b _ _ _ _ _)).1
        have oA : mm_call mX1_ofAll [vR 6, vR 4, vI k] x = some ([vL (tV h w e n k)], x) := c_ofAll h x w e n k wt n0 x4 x23
        have nxt : ¬ (mm_cd (mkN e n.toNat) due k ∧ (bsS (mkN e n.toNat) due (tV h w e n) k.toNat < 0 ∨ tV h w e n (bsS (mkN e n.toNat) due (tV h w e n) k.toNat) < tV h w e n k)) → mm_ev mX1_bestSet 3 43 [some (vR 6), some (vR 4), some (vI due), some (vI (mkN e n.toNat)), some (vI a), some (vL b), none, some (vI (k + 1))] [] x = some ([vI (if bsS (mkN e n.toNat) due (tV h w e n) 128 < 0 then 0 else bsS (mkN e n.toNat) due (tV h w e n) 128)], x) := fun no => by
          rw [if_neg no] at sb
          exact ih (k + 1) a b (by omega) (by omega) (by omega) (by rw [sb]; exact ha) (by rw [sb]; exact hb)
        rw [X1_bestSet_43, if_neg (by omega), w4]
        by_cases q1 : iAnd k (iXor (mkN e n.toNat) (-1)) = 0
        · rw [if_neg (fun w => w q1), c_bitCount, mm_be1, X1_bestSet_65, w4]
          by_cases q2 : bcE k = due
          · rw [if_neg (fun w => w q2), oA, mm_be1, X1_bestSet_76, w4]
            by_cases q3 : tV h w e n k ≤ b
            · rw [if_pos (lCmp_le.2 q3)]
              refine nxt (fun no => ?_)
              by_cases z : bsS (mkN e n.toNat) due (tV h w e n) k.toNat < 0
              · rw [if_pos z] at hb
                omega
              · rw [if_neg z] at hb
                have := no.2
                omega
            · have ps : mm_cd (mkN e n.toNat) due k ∧ (bsS (mkN e n.toNat) due (tV h w e n) k.toNat < 0 ∨ tV h w e n (bsS (mkN e n.toNat) due (tV h w e n) k.toNat) < tV h w e n k) := by
                refine ⟨⟨q1, q2⟩, ?_⟩
                by_cases z : bsS (mkN e n.toNat) due (tV h w e n) k.toNat < 0
                · exact Or.inl z
                · rw [if_neg z] at hb
                  right
                  omega
              rw [if_pos ps] at sb
              rw [if_neg (fun w => q3 (lCmp_le.1 w)), oA, mm_be1, X1_bestSet_89, w4]
              exact ih (k + 1) _ _ (by omega) (by omega) (by omega) (by rw [sb, if_neg (by omega)]) (by rw [sb, if_neg (by omega)])
          · rw [if_pos q2]
            exact nxt (fun w => q2 w.1.2)
        · rw [if_pos q1]
          exact nxt (fun w => q1 w.1.1)
  rw [X1_bestSet_c]
  have t := L1 6 0 (by decide) n0.1 (by omega)
  exact t.trans (L2 128 0 0 (-1) (by decide) (by decide) (by decide) rfl rfl)
