/-! drawn: the pair -/
theorem mUp_uu (h : mm_M) (c : Nat) (i a b : Int) : mUp (mUp h c i a) c i b = mUp h c i b := by
  funext c' i'
  by_cases t : c' = c ∧ i' = i
  · rw [t.1, t.2, mUp_self, mUp_self]
  · rw [mUp_at, if_neg t, mUp_at, if_neg t, mUp_at, if_neg t]
theorem c_night (h x : mm_M) (w : Int) (e : Int → Int) (n z : Int) (wt : mm_wt h x w e n) (n0 : 0 ≤ n ∧ n ≤ 6) (x4 : x 4 0 = n) (x23 : ∀ j : Int, 0 ≤ j → j < n → x 23 j = e j ∧ 0 ≤ e j ∧ e j < 7) (x6 : x 6 0 = z) : mm_call mX1_drawNight [vR 6, vR 4] x = some ([vI (wrN h w e z n.toNat)], mUp x 6 0 (dzN z n.toNat)) := by
  have L : ∀ (c : Nat) (k : Int) (o : Option mm_V) (y : mm_M), 0 ≤ k → k ≤ n → n - k ≤ c → y = mUp x 6 0 (dzN z k.toNat) → mm_ev mX1_drawNight 1 4 [some (vR 6), some (vR 4), some (vI (wrN h w e z k.toNat)), some (vI k), o] [] y = some ([vI (wrN h w e z n.toNat)], mUp x 6 0 (dzN z n.toNat)) := by
    intro c
    have fin : ∀ (k : Int) (o : Option mm_V) (y : mm_M), k = n → y = mUp x 6 0 (dzN z k.toNat) → mm_ev mX1_drawNight 1 4 [some (vR 6), some (vR 4), some (vI (wrN h w e z k.toNat)), some (vI k), o] [] y = some ([vI (wrN h w e z n.toNat)], mUp x 6 0 (dzN z n.toNat)) := by
      intro k o y ek hy
      subst ek
      have y4 : y 4 0 = k := by rw [hy, mUp_ne (by decide)]; exact x4
      rw [X1_drawNight_4, y4, if_pos (Int.le_refl _), hy]
    induction c with
    | zero =>
      intro k o y k0 k1 kc hy
      exact fin k o y (by omega) hy
    | succ c ih =>
      intro k o y k0 k1 kc hy
      by_cases q : k = n
      · exact fin k o y q hy
      · have w4 : w32 (k + 1) = k + 1 := w32_id (by unfold mm_r32; omega)
        obtain ⟨e1, e2⟩ := x23 k k0 (by omega)
        have ks : (k + 1).toNat = k.toNat + 1 := by omega
        have kk : (k.toNat : Int) = k := by omega
        have y4 : y 4 0 = n := by rw [hy, mUp_ne (by decide)]; exact x4
        have y6 : w32 (w32 (y 6 0 * 1103515245) + 12345) = dzN z (k + 1).toNat := by
          rw [hy, mUp_self, ks]
          rfl
        have yu : ∀ v, mUp y 6 0 v = mUp x 6 0 v := fun v => by
          rw [hy, mUp_uu]
        have m29 : x 29 (e k) = misV h w (e k) k := (wt.2.1 k k0 (by omega)).1
        have s1 : wrN h w e z (k + 1).toNat = if misV h w (e k) k ≤ dr (dzN z (k + 1).toNat) then wrN h w e z k.toNat else iOr (wrN h w e z k.toNat) (iShl 1 (e k)) := by
          rw [ks]
          show (if misV h w (e (k.toNat : Int)) (k.toNat : Int) ≤ _ then _ else iOr _ (iShl 1 (e (k.toNat : Int)))) = _
          rw [kk]
        rw [X1_drawNight_4, y4, if_neg (by omega), if_pos (by omega), y6, yu, mUp_ne (show (23 : Nat) ≠ 6 by decide), e1, if_pos e2, mUp_self, mUp_ne (show (29 : Nat) ≠ 6 by decide), m29, w4]
        by_cases t : misV h w (e k) k ≤ dr (dzN z (k + 1).toNat)
        · rw [if_pos t] at s1
          rw [if_pos (show misV h w (e k) k ≤ (iUshr (dzN z (k + 1).toNat) 8).tmod 12 from t), ← s1]
          exact ih (k + 1) _ _ (by omega) (by omega) (by omega) rfl
        · rw [if_neg t] at s1
          rw [if_neg (show ¬ misV h w (e k) k ≤ (iUshr (dzN z (k + 1).toNat) 8).tmod 12 from t), ← s1]
          exact ih (k + 1) _ _ (by omega) (by omega) (by omega) rfl
  rw [X1_drawNight_c]
  refine L 6 0 none x (by decide) n0.1 (by omega) ?_
  funext c i
  rw [mUp_at]
  by_cases t : c = 6 ∧ i = 0
  · rw [if_pos t, t.1, t.2, x6]
    rfl
  · rw [if_neg t]
def zkN (n z : Int) : Nat → Int
  | 0 => z
  | k + 1 => dzN (zkN n z k) n.toNat
/-- patrols that go in, by what was misheard -/
def pWr (g : mm_M) (u : Int) : Int := cPat g u 0 + cPat g u 1 + cPat g u 2 + cPat g u 3
theorem cPat_b (g : mm_M) (u k : Int) : 0 ≤ cPat g u k ∧ cPat g u k ≤ 1 := by
  unfold cPat
  split <;> omega
theorem pWr_b (g : mm_M) (u : Int) : 0 ≤ pWr g u ∧ pWr g u ≤ 4 := by
  have a := cPat_b g u 0
  have b := cPat_b g u 1
  have c := cPat_b g u 2
  have d := cPat_b g u 3
  unfold pWr
  omega
def nV (h g : mm_M) (w : Int) (e : Int → Int) (n what z : Int) : Int := if what = 0 then rcN h w e z n.toNat else pWr g (wrN h w e z n.toNat)
def nS (h g : mm_M) (w : Int) (e : Int → Int) (n what z : Int) : Nat → Int
  | 0 => 0
  | k + 1 => nS h g w e n what z k + nV h g w e n what (zkN n z k)
theorem nV_b (h g : mm_M) (w : Int) (e : Int → Int) (n what z : Int) (n0 : 0 ≤ n ∧ n ≤ 6) (he : ∀ j : Int, 0 ≤ j → j < n → 0 ≤ e j ∧ e j < 7) (hd : ∀ i j : Int, 0 ≤ i → i < j → j < n → ¬ e i = e j) : 0 ≤ nV h g w e n what z ∧ nV h g w e n what z ≤ 6 := by
  have a := wrN_b h w e z n he hd n.toNat (by omega)
  have b := bcS_b a.1
  have c := pWr_b g (wrN h w e z n.toNat)
  unfold nV
  split <;> omega
theorem nS_b (h g : mm_M) (w : Int) (e : Int → Int) (n what z : Int) (n0 : 0 ≤ n ∧ n ≤ 6) (he : ∀ j : Int, 0 ≤ j → j < n → 0 ≤ e j ∧ e j < 7) (hd : ∀ i j : Int, 0 ≤ i → i < j → j < n → ¬ e i = e j) : ∀ k : Nat, 0 ≤ nS h g w e n what z k ∧ nS h g w e n what z k ≤ 6 * k := by
  intro k
  induction k with
  | zero => exact ⟨Int.le_refl _, by show (0 : Int) ≤ 6 * 0; decide⟩
  | succ k ih =>
    have a := nV_b h g w e n what (zkN n z k) n0 he hd
    show 0 ≤ nS h g w e n what z k + nV h g w e n what (zkN n z k) ∧ nS h g w e n what z k + nV h g w e n what (zkN n z k) ≤ 6 * ((k + 1 : Nat) : Int)
    omega
theorem c_drawL (h g : mm_M) (s sd m what o5 : Int) (hI : mm_Inv h) (hS : mm_Sm h g) (W : mm_WG g) (hb : ∀ p : Int, 0 ≤ p → p < 7 → mm_bok (bh g p)) (hn : mm_nok g) (hm : 1 ≤ m ∧ m ≤ 30) (x : mm_M) (wt : mm_wt h x (h 11 54) (g 23) (g 4 0)) (xf : mm_xf g x) : ∃ y, mm_ev mX9_drawn 6 67 [some (vR 0), some (vI s), some (vI sd), some (vI m), some (vI what), some (vI o5), none, none, none] [] x = some ([vI (nS h g (h 11 54) (g 23) (g 4 0) what sd m.toNat)], y) ∧ mm_Sm h y := by
  have W0 := W.1
  have W6 := W.2.1
  have g7 := hn.2.2.1
  have he : ∀ j : Int, 0 ≤ j → j < g 4 0 → 0 ≤ g 23 j ∧ g 23 j < 7 := fun j j0 j1 => by
    have := (W.2.2.1 j j0 j1).1
    omega
  have hd : ∀ i j : Int, 0 ≤ i → i < j → j < g 4 0 → ¬ g 23 i = g 23 j := fun i j i0 ij j1 => WG_d W i0 ij j1
  have L : ∀ (c : Nat) (k : Int) (o : Option mm_V) (y : mm_M), 0 ≤ k → k ≤ m → m - k ≤ c → y = mUp x 6 0 (zkN (g 4 0) sd k.toNat) → ∃ z, mm_ev mX9_drawn 6 81 [some (vR 0), some (vI s), some (vI sd), some (vI m), some (vI what), some (vI o5), some (vI (nS h g (h 11 54) (g 23) (g 4 0) what sd k.toNat)), some (vI k), o] [] y = some ([vI (nS h g (h 11 54) (g 23) (g 4 0) what sd m.toNat)], z) ∧ mm_Sm h z := by
    intro c
    have fin : ∀ (k : Int) (o : Option mm_V) (y : mm_M), k = m → y = mUp x 6 0 (zkN (g 4 0) sd k.toNat) → ∃ z, mm_ev mX9_drawn 6 81 [some (vR 0), some (vI s), some (vI sd), some (vI m), some (vI what), some (vI o5), some (vI (nS h g (h 11 54) (g 23) (g 4 0) what sd k.toNat)), some (vI k), o] [] y = some ([vI (nS h g (h 11 54) (g 23) (g 4 0) what sd m.toNat)], z) ∧ mm_Sm h z := by
      intro k o y ek hy
      subst ek
      refine ⟨y, ?_, ?_⟩
      · rw [X9_drawn_81, if_pos (Int.le_refl _)]
      · rw [hy]
        exact (hS.tr xf.Sm).up (by unfold mm_sc; omega)
    induction c with
    | zero =>
      intro k o y k0 k1 kc hy
      exact fin k o y (by omega) hy
    | succ c ih =>
      intro k o y k0 k1 kc hy
      by_cases q : k = m
      · exact fin k o y q hy
      · have w4 : w32 (k + 1) = k + 1 := w32_id (by unfold mm_r32; omega)
        have ks : (k + 1).toNat = k.toNat + 1 := by omega
        have yc : ∀ c i, c ≠ 6 → y c i = x c i := fun c i hc => by rw [hy, mUp_ne hc]
        have xc : ∀ c i, c ≠ 29 → c ≠ 30 → c ≠ 31 → c ≠ 18 → ¬ (c = 2 ∧ i = 9) → c ≠ 6 → y c i = g c i := fun c i q1 q2 q3 q4 q5 q6 => by rw [yc c i q6]; exact xf c i q1 q2 q3 q4 q5
        have y4 : y 4 0 = g 4 0 := xc 4 0 (by decide) (by decide) (by decide) (by decide) (by decide) (by decide)
        have wty : mm_wt h y (h 11 54) (g 23) (g 4 0) := by
          obtain ⟨a, b, c⟩ := wt
          have e29 : y 29 = x 29 := funext (fun i => yc 29 i (by decide))
          have e30 : y 30 = x 30 := funext (fun i => yc 30 i (by decide))
          have e31 : y 31 = x 31 := funext (fun i => yc 31 i (by decide))
          unfold mm_wt
          rw [e29, e30, e31]
          exact ⟨a, b, c⟩
        have nt := c_night h y (h 11 54) (g 23) (g 4 0) (zkN (g 4 0) sd k.toNat) wty ⟨W0, W6⟩ y4 (fun j j0 j1 => ⟨xc 23 j (by decide) (by decide) (by decide) (by decide) (by omega) (by decide), he j j0 j1⟩) (by rw [hy, mUp_self])
        have yu : ∀ v, mUp y 6 0 v = mUp x 6 0 v := fun v => by
          rw [hy, mUp_uu]
        have zz : mUp y 6 0 (dzN (zkN (g 4 0) sd k.toNat) (g 4 0).toNat) = mUp x 6 0 (zkN (g 4 0) sd (k + 1).toNat) := by
          rw [yu, ks]
          rfl
        rw [zz] at nt
        have wb := wrN_b h (h 11 54) (g 23) (zkN (g 4 0) sd k.toNat) (g 4 0) he hd (g 4 0).toNat (by omega)
        have bb := bcS_b wb.1
        have vb := nV_b h g (h 11 54) (g 23) (g 4 0) what (zkN (g 4 0) sd k.toNat) ⟨W0, W6⟩ he hd
        have sb := nS_b h g (h 11 54) (g 23) (g 4 0) what sd ⟨W0, W6⟩ he hd k.toNat
        have sn : nS h g (h 11 54) (g 23) (g 4 0) what sd (k + 1).toNat = nS h g (h 11 54) (g 23) (g 4 0) what sd k.toNat + nV h g (h 11 54) (g 23) (g 4 0) what (zkN (g 4 0) sd k.toNat) := by
          rw [ks]
          rfl
        have ws : w32 (nS h g (h 11 54) (g 23) (g 4 0) what sd k.toNat + nV h g (h 11 54) (g 23) (g 4 0) what (zkN (g 4 0) sd k.toNat)) = nS h g (h 11 54) (g 23) (g 4 0) what sd (k + 1).toNat := by
          rw [sn]
          exact w32_id (by unfold mm_r32; omega)
        rw [X9_drawn_81, if_neg (by omega), nt, mm_be1, X9_drawn_98]
        by_cases t : what = 0
        · have z4 : (mUp x 6 0 (zkN (g 4 0) sd (k + 1).toNat)) 4 0 = g 4 0 := by
            rw [mUp_ne (by decide)]
            exact xf 4 0 (by decide) (by decide) (by decide) (by decide) (by decide)
          have wv : w32 (g 4 0 - bcS (wrN h (h 11 54) (g 23) (zkN (g 4 0) sd k.toNat) (g 4 0).toNat)) = nV h g (h 11 54) (g 23) (g 4 0) what (zkN (g 4 0) sd k.toNat) := by
            unfold nV
            rw [if_pos t, w32_id (by unfold mm_r32; omega)]
            omega
          rw [if_neg (fun w => w t), c_bitCount, mm_be1, X9_drawn_119, z4, bcE_s wb.1, wv, X9_drawn_136, ws, w4]
          exact ih (k + 1) _ _ (by omega) (by omega) (by omega) rfl
        · have Zc : ∀ c i, c ≠ 29 → c ≠ 30 → c ≠ 31 → c ≠ 18 → ¬ (c = 2 ∧ i = 9) → c ≠ 6 → (mUp x 6 0 (zkN (g 4 0) sd (k + 1).toNat)) c i = g c i := fun c i q1 q2 q3 q4 q5 q6 => by rw [mUp_ne q6]; exact xf c i q1 q2 q3 q4 q5
          have hZ : ∃ Z, Z = mUp x 6 0 (zkN (g 4 0) sd (k + 1).toNat) := ⟨_, rfl⟩
          obtain ⟨Z, hZ⟩ := hZ
          rw [← hZ] at Zc ⊢
          have Z11 : ∀ i, Z 11 i = g 11 i := fun i => Zc 11 i (by decide) (by decide) (by decide) (by decide) (by omega) (by decide)
          have bz : ∀ p, bh Z p = bh g p := fun p => by
            unfold bh
            rw [Zc 24 p (by decide) (by decide) (by decide) (by decide) (by omega) (by decide), Zc 25 p (by decide) (by decide) (by decide) (by decide) (by omega) (by decide)]
          have Z1 : Z 1 1 = g 1 1 := Zc 1 1 (by decide) (by decide) (by decide) (by decide) (by omega) (by decide)
          have Zn : mm_nok Z := by
            obtain ⟨n1, n2, n3, n4, n5⟩ := hn
            refine ⟨by rw [Z11]; exact n1, by rw [Z11]; exact n2, by rw [Z1]; exact n3, by rw [Z11]; exact n4, fun j j0 j1 => ?_⟩
            rw [Z11, Z11]
            exact n5 j j0 j1
          have cp : ∀ (u j : Int), cPat Z u j = cPat g u j := fun u j => by
            unfold cPat cGo kn
            rw [Z11, Z11, Z11, Z11, Z11, Z11, Z11, Z11, Z1, bz]
          have pz := c_patrolsIn Z (wrN h (h 11 54) (g 23) (zkN (g 4 0) sd k.toNat) (g 4 0).toNat) (fun p p0 p7 => by rw [bz]; exact hb p p0 p7) Zn
          rw [cp, cp, cp, cp] at pz
          have pz : mm_call mX8_patrolsIn [vR 4, vR 1, vI (wrN h (h 11 54) (g 23) (zkN (g 4 0) sd k.toNat) (g 4 0).toNat)] Z = some ([vI (nV h g (h 11 54) (g 23) (g 4 0) what (zkN (g 4 0) sd k.toNat))], Z) := by
            rw [pz]
            unfold nV
            rw [if_neg t]
            rfl
          rw [if_pos t, pz, mm_be1, X9_drawn_136, ws, w4]
          exact ih (k + 1) _ _ (by omega) (by omega) (by omega) hZ
  rw [X9_drawn_67]
  exact L 30 0 none _ (by decide) (by omega) (by omega) rfl
theorem s_drawL (h g : mm_M) (s sd m what a5 : Int) (hI : mm_Inv h) (hS : mm_Sm h g) (W : mm_WG g) (hb : ∀ p : Int, 0 ≤ p → p < 7 → mm_bok (bh g p)) (hn : mm_nok g) (hm : 1 ≤ m ∧ m ≤ 30) (f : mm_M) (fI : mm_Inv f) (R : mm_rr h f (h 11 54) (g 23) (g 4 0)) (ag : mm_AG g f) (e13 : f 47 13 = g 11 56) (fok : mm_rok f) (fby : mm_rby f) (f52 : f 52 (g 11 54) = g 11 (31 + g 11 54)) (g54 : g 11 54 = h 11 54) : ∃ y, mm_ev mX10_drawn 6 56 [some (vR 47), some (vI s), some (vI sd), some (vI m), some (vI what), some (vI a5), some (vI sd), some (vI 0), some (vI 0), some (vI 0), none, none] [] f = some ([vI (nS h g (h 11 54) (g 23) (g 4 0) what sd m.toNat)], y) ∧ mm_rx f y := by
  have W0 := W.1
  have W6 := W.2.1
  have g7 := hn.2.2.1
  have n9 := (N9 hI.1).2
  have he : ∀ j : Int, 0 ≤ j → j < g 4 0 → 0 ≤ g 23 j ∧ g 23 j < 7 := fun j j0 j1 => by
    have := (W.2.2.1 j j0 j1).1
    omega
  have hd : ∀ i j : Int, 0 ≤ i → i < j → j < g 4 0 → ¬ g 23 i = g 23 j := fun i j i0 ij j1 => WG_d W i0 ij j1
  -- one night's posts
  have P1 : ∀ (c : Nat) (j z A B C : Int) (x : mm_M), 0 ≤ j → j ≤ g 4 0 → g 4 0 - j ≤ c → 0 ≤ A → A ≤ 180 → mm_rx f x → ∃ y, mm_ev mX10_drawn 6 68 [some (vR 47), some (vI s), some (vI sd), some (vI m), some (vI what), some (vI a5), some (vI (dzN z j.toNat)), some (vI (A + rcN h (h 11 54) (g 23) z j.toNat)), some (vI B), some (vI C), some (vI (wrN h (h 11 54) (g 23) z j.toNat)), some (vI j)] [] x = mm_ev mX10_drawn 6 142 [some (vR 47), some (vI s), some (vI sd), some (vI m), some (vI what), some (vI a5), some (vI (dzN z (g 4 0).toNat)), some (vI (A + rcN h (h 11 54) (g 23) z (g 4 0).toNat)), some (vI B), some (vI C), some (vI (wrN h (h 11 54) (g 23) z (g 4 0).toNat)), some (vI 0)] [] y ∧ mm_rx f y := by
    intro c
    have fin : ∀ (j z A B C : Int) (x : mm_M), j = g 4 0 → mm_rx f x → ∃ y, mm_ev mX10_drawn 6 68 [some (vR 47), some (vI s), some (vI sd), some (vI m), some (vI what), some (vI a5), some (vI (dzN z j.toNat)), some (vI (A + rcN h (h 11 54) (g 23) z j.toNat)), some (vI B), some (vI C), some (vI (wrN h (h 11 54) (g 23) z j.toNat)), some (vI j)] [] x = mm_ev mX10_drawn 6 142 [some (vR 47), some (vI s), some (vI sd), some (vI m), some (vI what), some (vI a5), some (vI (dzN z (g 4 0).toNat)), some (vI (A + rcN h (h 11 54) (g 23) z (g 4 0).toNat)), some (vI B), some (vI C), some (vI (wrN h (h 11 54) (g 23) z (g 4 0).toNat)), some (vI 0)] [] y ∧ mm_rx f y := by
      intro j z A B C x ej fx
      refine ⟨x, ?_, fx⟩
      rw [X10_drawn_68, (R.fr fx).2.1, if_pos (by omega), ej]
    induction c with
    | zero =>
      intro j z A B C x j0 j1 jc A0 A1 fx
      exact fin j z A B C x (by omega) fx
    | succ c ih =>
      intro j z A B C x j0 j1 jc A0 A1 fx
      by_cases q : j = g 4 0
      · exact fin j z A B C x q fx
      · have Rx := R.fr fx
        have w4 : w32 (j + 1) = j + 1 := w32_id (by unfold mm_r32; omega)
        have ks : (j + 1).toNat = j.toNat + 1 := by omega
        have kk : (j.toNat : Int) = j := by omega
        obtain ⟨y, y1, y2⟩ := s_mis h x hI (h 11 54) (g 23 j) j Rx.1 (by omega) (he j j0 (by omega)) (by omega)
        have wb := wrN_b h (h 11 54) (g 23) z (g 4 0) he hd j.toNat (by omega)
        have bb := bcS_b wb.1
        have z1 : w32 (w32 (dzN z j.toNat * 1103515245) + 12345) = dzN z (j + 1).toNat := by
          rw [ks]
          rfl
        have s1 : wrN h (h 11 54) (g 23) z (j + 1).toNat = if misV h (h 11 54) (g 23 j) j ≤ dr (dzN z (j + 1).toNat) then wrN h (h 11 54) (g 23) z j.toNat else iOr (wrN h (h 11 54) (g 23) z j.toNat) (iShl 1 (g 23 j)) := by
          rw [ks]
          show (if misV h (h 11 54) (g 23 (j.toNat : Int)) (j.toNat : Int) ≤ _ then _ else iOr _ (iShl 1 (g 23 (j.toNat : Int)))) = _
          rw [kk]
        have s2 : rcN h (h 11 54) (g 23) z (j + 1).toNat = if misV h (h 11 54) (g 23 j) j ≤ dr (dzN z (j + 1).toNat) then rcN h (h 11 54) (g 23) z j.toNat + 1 else rcN h (h 11 54) (g 23) z j.toNat := by
          rw [ks]
          show (if misV h (h 11 54) (g 23 (j.toNat : Int)) (j.toNat : Int) ≤ _ then _ else _) = _
          rw [kk]
        rw [X10_drawn_68, Rx.2.1, if_neg (by omega), if_pos (by omega), Rx.2.2 j j0 (by omega), y1, mm_be1, z1, X10_drawn_110, w4]
        by_cases t : misV h (h 11 54) (g 23 j) j ≤ dr (dzN z (j + 1).toNat)
        · rw [if_pos t] at s1 s2
          have wA : w32 (A + rcN h (h 11 54) (g 23) z j.toNat + 1) = A + rcN h (h 11 54) (g 23) z (j + 1).toNat := by
            rw [s2, w32_id (by unfold mm_r32; omega)]
            omega
          rw [if_pos (show misV h (h 11 54) (g 23 j) j ≤ (iUshr (dzN z (j + 1).toNat) 8).tmod 12 from t), wA, ← s1]
          exact ih (j + 1) z A B C y (by omega) (by omega) (by omega) A0 A1 (fx.tr y2)
        · rw [if_neg t] at s1 s2
          have y68 : y 68 j = g 23 j := by rw [y2 68 (by decide) (by decide)]; exact Rx.2.2 j j0 (by omega)
          rw [if_neg (show ¬ misV h (h 11 54) (g 23 j) j ≤ (iUshr (dzN z (j + 1).toNat) 8).tmod 12 from t), if_pos (by omega), y68, ← s1, ← s2]
          exact ih (j + 1) z A B C y (by omega) (by omega) (by omega) A0 A1 (fx.tr y2)
  -- one night's patrols
  have P2 : ∀ (x : mm_M) (z A B C u k : Int), mm_rx f x → (0 ≤ u ∧ u < 128) → 0 ≤ k → k < 4 → 0 ≤ B → B ≤ 200 → mm_ev mX10_drawn 6 142 [some (vR 47), some (vI s), some (vI sd), some (vI m), some (vI what), some (vI a5), some (vI z), some (vI A), some (vI B), some (vI C), some (vI u), some (vI k)] [] x = mm_ev mX10_drawn 6 142 [some (vR 47), some (vI s), some (vI sd), some (vI m), some (vI what), some (vI a5), some (vI z), some (vI A), some (vI (B + cPat g u k)), some (vI C), some (vI u), some (vI (k + 1))] [] x := by
    intro x z A B C u k fx hu k0 k4 B0 B1
    have w4 : w32 (k + 1) = k + 1 := w32_id (by unfold mm_r32; omega)
    have w5 : w32 (B + 1) = B + 1 := w32_id (by unfold mm_r32; omega)
    have e47 : x 47 = f 47 := fx 47 (by decide) (by decide)
    have xag : mm_AG g x := by
      obtain ⟨g1, g2, g3, g4, g5, g6⟩ := ag
      refine ⟨by rw [e47]; exact g1, by rw [e47]; exact g2, by rw [e47]; exact g3, by rw [e47]; exact g4, fun j j0 j1 => ?_, fun p p0 p7 => by rw [fx 69 (by decide) (by decide)]; exact g6 p p0 p7⟩
      rw [fx 53 (by decide) (by decide), fx 54 (by decide) (by decide), fx 55 (by decide) (by decide)]
      exact g5 j j0 j1
    have xok : mm_rok x := ⟨fun p p0 p7 => by rw [fx 69 (by decide) (by decide)]; exact fok.1 p p0 p7, by rw [e47]; exact fok.2.1, by rw [e47]; exact fok.2.2⟩
    have xby : mm_rby x := ⟨by rw [e47]; exact fby.1, fun j j0 j1 => by rw [fx 55 (by decide) (by decide)]; exact fby.2 j j0 j1⟩
    have x55 : x 55 k = g 11 (49 + k) := (xag.2.2.2.2.1 k k0 k4).2.2
    have m5 := hn.2.2.2.2 k k0 k4
    have tt := (tb_s (u := u) (p := g 11 (49 + k)) (q := g 11 (49 + k)) hu (by omega) (by omega)).2.2
    have hbx := fun e => homeBy_cg (g := g) (f := x) (k := k) e ⟨k0, k4⟩ xag hn (by rw [e47]; exact e13) hb
    have x47 : x 47 11 = g 11 54 := xag.2.2.1
    have x52 : x 52 (g 11 54) = g 11 (31 + g 11 54) := by rw [fx 52 (by decide) (by decide)]; exact f52
    rw [X10_drawn_142, if_neg (by omega), if_pos ⟨k0, k4⟩, x55]
    unfold cPat
    by_cases t : tb u (g 11 (49 + k)) = 0
    · rw [if_pos (show ¬ iAnd (iShr u (g 11 (49 + k))) 1 = 1 from fun w => by have w : tb u (g 11 (49 + k)) = 1 := w; omega), x47, s_homeBy x k _ ⟨k0, k4⟩ xok xby, mm_be1, X10_drawn_186, if_pos (show iAnd (iShr u (g 11 (49 + k))) 1 = 0 from t), w4, w5]
      by_cases v : cGo g k (g 11 54)
      · rw [if_pos ((hbx _).2 v), if_neg (by decide), if_pos v]
      · rw [if_neg (fun w => v ((hbx _).1 w)), if_pos rfl, if_neg v, show B + 0 = B from by omega]
    · rw [if_neg (show ¬ ¬ iAnd (iShr u (g 11 (49 + k))) 1 = 1 from fun w => w (show tb u (g 11 (49 + k)) = 1 by omega)), x47, if_pos (by omega), x52, s_homeBy x k _ ⟨k0, k4⟩ xok xby, mm_be1, X10_drawn_186, if_neg (show ¬ iAnd (iShr u (g 11 (49 + k))) 1 = 0 from t), w4, w5]
      by_cases v : cGo g k (g 11 (31 + g 11 54))
      · rw [if_pos ((hbx _).2 v), if_neg (by decide), if_pos v]
      · rw [if_neg (fun w => v ((hbx _).1 w)), if_pos rfl, if_neg v, show B + 0 = B from by omega]
  have L : ∀ (c : Nat) (k : Int) (o1 o2 : Option mm_V) (x : mm_M), 0 ≤ k → k ≤ m → m - k ≤ c → mm_rx f x → ∃ y, mm_ev mX10_drawn 6 56 [some (vR 47), some (vI s), some (vI sd), some (vI m), some (vI what), some (vI a5), some (vI (zkN (g 4 0) sd k.toNat)), some (vI (nS h g (h 11 54) (g 23) (g 4 0) 0 sd k.toNat)), some (vI (nS h g (h 11 54) (g 23) (g 4 0) 1 sd k.toNat)), some (vI k), o1, o2] [] x = some ([vI (nS h g (h 11 54) (g 23) (g 4 0) what sd m.toNat)], y) ∧ mm_rx f y := by
    intro c
    have fin : ∀ (k : Int) (o1 o2 : Option mm_V) (x : mm_M), k = m → mm_rx f x → ∃ y, mm_ev mX10_drawn 6 56 [some (vR 47), some (vI s), some (vI sd), some (vI m), some (vI what), some (vI a5), some (vI (zkN (g 4 0) sd k.toNat)), some (vI (nS h g (h 11 54) (g 23) (g 4 0) 0 sd k.toNat)), some (vI (nS h g (h 11 54) (g 23) (g 4 0) 1 sd k.toNat)), some (vI k), o1, o2] [] x = some ([vI (nS h g (h 11 54) (g 23) (g 4 0) what sd m.toNat)], y) ∧ mm_rx f y := by
      intro k o1 o2 x ek fx
      subst ek
      refine ⟨x, ?_, fx⟩
      rw [X10_drawn_56, if_pos (Int.le_refl _)]
      by_cases t : what = 0
      · rw [if_neg (fun w => w t), t]
      · have ew : ∀ j : Nat, nS h g (h 11 54) (g 23) (g 4 0) what sd j = nS h g (h 11 54) (g 23) (g 4 0) 1 sd j := by
          intro j
          induction j with
          | zero => rfl
          | succ j ihj =>
            show nS h g (h 11 54) (g 23) (g 4 0) what sd j + nV h g (h 11 54) (g 23) (g 4 0) what _ = nS h g (h 11 54) (g 23) (g 4 0) 1 sd j + nV h g (h 11 54) (g 23) (g 4 0) 1 _
            rw [ihj]
            unfold nV
            rw [if_neg t, if_neg (by decide)]
        rw [if_pos t, ew]
    induction c with
    | zero =>
      intro k o1 o2 x k0 k1 kc fx
      exact fin k o1 o2 x (by omega) fx
    | succ c ih =>
      intro k o1 o2 x k0 k1 kc fx
      by_cases q : k = m
      · exact fin k o1 o2 x q fx
      · have w4 : w32 (k + 1) = k + 1 := w32_id (by unfold mm_r32; omega)
        have ks : (k + 1).toNat = k.toNat + 1 := by omega
        have sb0 := nS_b h g (h 11 54) (g 23) (g 4 0) 0 sd ⟨W0, W6⟩ he hd k.toNat
        have sb1 := nS_b h g (h 11 54) (g 23) (g 4 0) 1 sd ⟨W0, W6⟩ he hd k.toNat
        obtain ⟨y, y1, y2⟩ := P1 6 0 (zkN (g 4 0) sd k.toNat) (nS h g (h 11 54) (g 23) (g 4 0) 0 sd k.toNat) (nS h g (h 11 54) (g 23) (g 4 0) 1 sd k.toNat) k x (by decide) W0 (by omega) sb0.1 (by omega) fx
        have y1 : mm_ev mX10_drawn 6 68 [some (vR 47), some (vI s), some (vI sd), some (vI m), some (vI what), some (vI a5), some (vI (zkN (g 4 0) sd k.toNat)), some (vI (nS h g (h 11 54) (g 23) (g 4 0) 0 sd k.toNat + 0)), some (vI (nS h g (h 11 54) (g 23) (g 4 0) 1 sd k.toNat)), some (vI k), some (vI 0), some (vI 0)] [] x = _ := y1
        rw [show nS h g (h 11 54) (g 23) (g 4 0) 0 sd k.toNat + 0 = nS h g (h 11 54) (g 23) (g 4 0) 0 sd k.toNat from by omega] at y1
        have wb := wrN_b h (h 11 54) (g 23) (zkN (g 4 0) sd k.toNat) (g 4 0) he hd (g 4 0).toNat (by omega)
        have c0 := cPat_b g (wrN h (h 11 54) (g 23) (zkN (g 4 0) sd k.toNat) (g 4 0).toNat) 0
        have c1 := cPat_b g (wrN h (h 11 54) (g 23) (zkN (g 4 0) sd k.toNat) (g 4 0).toNat) 1
        have c2 := cPat_b g (wrN h (h 11 54) (g 23) (zkN (g 4 0) sd k.toNat) (g 4 0).toNat) 2
        rw [X10_drawn_56, if_neg (by omega), y1, P2 y _ _ _ _ _ 0 y2 wb.1 (by decide) (by decide) sb1.1 (by omega), show (0 : Int) + 1 = 1 from rfl, P2 y _ _ _ _ _ 1 y2 wb.1 (by decide) (by decide) (by omega) (by omega), show (1 : Int) + 1 = 2 from rfl, P2 y _ _ _ _ _ 2 y2 wb.1 (by decide) (by decide) (by omega) (by omega), show (2 : Int) + 1 = 3 from rfl, P2 y _ _ _ _ _ 3 y2 wb.1 (by decide) (by decide) (by omega) (by omega), show (3 : Int) + 1 = 4 from rfl, X10_drawn_142, if_pos (by decide), w4]
        have e0 : nS h g (h 11 54) (g 23) (g 4 0) 0 sd (k + 1).toNat = nS h g (h 11 54) (g 23) (g 4 0) 0 sd k.toNat + rcN h (h 11 54) (g 23) (zkN (g 4 0) sd k.toNat) (g 4 0).toNat := by
          rw [ks]
          rfl
        have e1 : nS h g (h 11 54) (g 23) (g 4 0) 1 sd (k + 1).toNat = nS h g (h 11 54) (g 23) (g 4 0) 1 sd k.toNat + cPat g (wrN h (h 11 54) (g 23) (zkN (g 4 0) sd k.toNat) (g 4 0).toNat) 0 + cPat g (wrN h (h 11 54) (g 23) (zkN (g 4 0) sd k.toNat) (g 4 0).toNat) 1 + cPat g (wrN h (h 11 54) (g 23) (zkN (g 4 0) sd k.toNat) (g 4 0).toNat) 2 + cPat g (wrN h (h 11 54) (g 23) (zkN (g 4 0) sd k.toNat) (g 4 0).toNat) 3 := by
          rw [ks]
          show nS h g (h 11 54) (g 23) (g 4 0) 1 sd k.toNat + nV h g (h 11 54) (g 23) (g 4 0) 1 _ = _
          unfold nV pWr
          rw [if_neg (by decide)]
          omega
        have e2 : dzN (zkN (g 4 0) sd k.toNat) (g 4 0).toNat = zkN (g 4 0) sd (k + 1).toNat := by
          rw [ks]
          rfl
        rw [← e0, ← e1, e2]
        exact ih (k + 1) _ _ y (by omega) (by omega) (by omega) y2
  exact L 30 0 none none f (by decide) (by omega) (by omega) mm_rx.rf
theorem p_drawn (h : mm_M) (s sd m what : Int) (hI : mm_Inv h) : mm_Pr mX9_drawn mX10_drawn [vI s, vI sd, vI m, vI what] h mm_Inv := by
  have eC : mm_call mX9_drawn [vR 0, vI s, vI sd, vI m, vI what] h = if (1 ≤ m ∧ m ≤ 30) ∧ 0 ≤ what ∧ what ≤ 1 then (mm_call mX9_layOut [vR 0, vI s] h).bind (fun z => mm_ev mX9_drawn 6 29 [some (vR 0), some (vI s), some (vI sd), some (vI m), some (vI what), none, none, none, none] (z.1 ++ []) z.2) else some ([vI (-1)], h) := by
    rw [X9_drawn_c]
    by_cases q1 : m < 1
    · rw [if_pos q1, if_neg (by omega)]
    · rw [if_neg q1]
      by_cases q2 : 30 < m
      · rw [if_pos q2, if_neg (by omega)]
      · rw [if_neg q2]
        by_cases q3 : what < 0
        · rw [if_pos q3, if_neg (by omega)]
        · rw [if_neg q3]
          by_cases q4 : what ≤ 1
          · rw [if_pos q4, if_pos ⟨by omega, by omega⟩]
          · rw [if_neg q4, if_neg (by omega)]
  have eR : ∀ x : mm_M, mm_call mX10_drawn [vR 47, vI s, vI sd, vI m, vI what] x = if 0 ≤ s ∧ s < 6 then (if (1 ≤ m ∧ m ≤ 30) ∧ 0 ≤ what ∧ what ≤ 1 then (mm_call mX10_layOr [vR 47, vI s] x).bind (fun z => mm_ev mX10_drawn 6 34 [some (vR 47), some (vI s), some (vI sd), some (vI m), some (vI what), none, none, none, none, none, none, none] (z.1 ++ []) z.2) else some ([vI (-1)], x)) else some ([vI (-1)], x) := by
    intro x
    rw [X10_drawn_c, s_shelf, mm_be1, X10_drawn_4]
    by_cases hs : 0 ≤ s ∧ s < 6
    · rw [if_pos hs, if_neg (by decide), if_pos hs, s_in, mm_be1, X10_drawn_14]
      by_cases q2 : 1 ≤ m ∧ m ≤ 30
      · rw [if_pos q2, if_neg (by decide), s_in, mm_be1, X10_drawn_24]
        by_cases q3 : 0 ≤ what ∧ what ≤ 1
        · rw [if_pos q3, if_pos (by decide), if_pos ⟨q2, q3⟩]
        · rw [if_neg q3, if_neg (fun w => w rfl), if_neg (fun w => q3 w.2)]
      · rw [if_neg q2, if_pos rfl, if_neg (fun w => q2 w.1)]
    · rw [if_neg hs, if_pos rfl, if_neg hs]
  by_cases q : (1 ≤ m ∧ m ≤ 30) ∧ 0 ≤ what ∧ what ≤ 1
  · rw [if_pos q] at eC
    by_cases hz : kWhy h s 0 = 0
    · obtain ⟨hs, -⟩ := kWhy0 hz
      obtain ⟨g, a1, -, W, a4, a5, a6, a7, a8⟩ := mm_ctx h s hI hz
      have n9 := (N9 hI.1).2
      have g54 : g 11 54 = h 11 54 := a4 11 54 (by unfold mm_sc; omega)
      obtain ⟨x, x1, wt, xf⟩ := c_weigh h g hI a4 W (h 11 54) (by omega)
      obtain ⟨y, y1, yS⟩ := c_drawL h g s sd m what 0 hI a4 W a6 a7 q.1 x wt xf
      rw [a1, mm_be1, X9_drawn_29, if_pos rfl, c_new, mm_be1, X9_drawn_64, g54, x1, mm_be0, y1] at eC
      have gy : mm_Sm g y := fun c k w => (yS c k w).trans (a4 c k w).symm
      obtain ⟨f, b1, -, Ly, b4, b5, b6, b7, b8, b9⟩ := a8 y gy
      have fS := yS.tr b4
      have R := rr_of hI fS Ly
      have ag := AG_of Ly b5.1 b8 b9
      have e13 : f 47 13 = g 11 56 := by rw [(N11 b5.1).1, b8]
      have f52 : f 52 (g 11 54) = g 11 (31 + g 11 54) := by rw [(N4 b5.1 (g 11 54) (by omega) (by omega)).1, b8]
      obtain ⟨u, u1, u2⟩ := s_drawL h g s sd m what 0 hI a4 W a6 a7 q.1 f b5 R ag e13 b6 b7 f52 g54
      have eR := eR y
      rw [if_pos hs, if_pos q, b1, mm_be1, X10_drawn_34, if_pos (by decide), u1] at eR
      exact mm_Pr.of eC eR (mm_Inv_Sm (fS.tr u2.Sm) hI)
    · rw [lay_bad h s hz, mm_be1, X9_drawn_29, if_neg hz] at eC
      refine mm_Pr.of eC ?_ hI
      rw [eR h]
      by_cases hs : 0 ≤ s ∧ s < 6
      · have ng := kWhy_neg hz
        rw [if_pos hs, if_pos q, rlay_bad h s hI hs hz, mm_be1, X10_drawn_34, if_neg (by omega)]
      · rw [if_neg hs, kWhy_no hs]
  · rw [if_neg q] at eC
    refine mm_Pr.of eC ?_ hI
    rw [eR h, if_neg q]
    by_cases hs : 0 ≤ s ∧ s < 6
    · rw [if_pos hs]
    · rw [if_neg hs]
