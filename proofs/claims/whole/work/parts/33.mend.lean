/-! mend -/
def mm_mc (c : Nat) (i : Int) : Prop := (11 ≤ c ∧ c ≤ 14) ∨ (48 ≤ c ∧ c ≤ 59) ∨ (c = 1 ∧ 2 ≤ i ∧ i ≤ 4) ∨ (c = 47 ∧ 10 ≤ i ∧ i ≤ 15)
theorem mm_mc_fr {d : Nat → Int → Bool} {h f : mm_M} (q : ∀ c i, d c i = true → ¬ mm_mc c i) (e : ∀ c i, ¬ mm_mc c i → f c i = h c i) : ∀ c i, d c i = true → f c i = h c i := fun c i w => e c i (q c i w)
theorem mm_mc_D : ∀ c i, mm_dD c i = true → ¬ mm_mc c i := by intro c i w; unfold mm_dD at w; simp at w; unfold mm_mc; omega
theorem mm_mc_I : ∀ c i, mm_dI c i = true → ¬ mm_mc c i := by intro c i w; unfold mm_dI at w; simp at w; unfold mm_mc; omega
theorem mm_mc_B : ∀ c i, mm_dB c i = true → ¬ mm_mc c i := by intro c i w; unfold mm_dB at w; simp at w; unfold mm_mc; omega
theorem mm_mc_S : ∀ c i, mm_dS c i = true → ¬ mm_mc c i := by intro c i w; unfold mm_dS at w; simp at w; unfold mm_mc; omega
theorem mm_mc_T : ∀ c i, mm_dT c i = true → ¬ mm_mc c i := by intro c i w; unfold mm_dT at w; simp at w; unfold mm_mc; omega
theorem mm_mc_L : ∀ c i, mm_dL c i = true → ¬ mm_mc c i := by intro c i w; unfold mm_dL at w; simp at w; unfold mm_mc; omega
theorem mm_vAt_co {h f : mm_M} {w k : Int} (e : ∀ c, 48 ≤ c → c ≤ 55 → f c = h c) (e1 : ∀ i, 10 ≤ i → i ≤ 13 → f 47 i = h 47 i) : mm_vAt f w k = mm_vAt h w k := by
  unfold mm_vAt
  rw [e 48 (by omega) (by omega), e 49 (by omega) (by omega), e 50 (by omega) (by omega), e 51 (by omega) (by omega), e 52 (by omega) (by omega), e 53 (by omega) (by omega), e 54 (by omega) (by omega), e 55 (by omega) (by omega), e1 10 (by omega) (by omega), e1 11 (by omega) (by omega), e1 12 (by omega) (by omega), e1 13 (by omega) (by omega)]
theorem c_room (h : mm_M) (hU : mm_RU h) : ∃ g, mm_call mX4_makeRoom [vR 1] h = some ([], g) ∧ (∀ c i, ¬ (c = 1 ∧ 2 ≤ i ∧ i ≤ 4) → g c i = h c i) ∧ ((¬ h 1 2 = 40 ∧ g 1 2 = h 1 2 ∧ g 1 4 = h 1 4) ∨ (h 1 2 = 40 ∧ g 1 2 = 39 ∧ g 1 4 = (h 1 4 + 1) % 40)) := by
  obtain ⟨u1, u2, u3, u4, u5, u6, u7, u8⟩ := hU
  by_cases z : h 1 2 = 40
  · have w1 : w32 (h 1 4 + 1) = h 1 4 + 1 := w32_id (by unfold mm_r32; omega)
    have w2 : w32 (h 1 2 - 1) = h 1 2 - 1 := w32_id (by unfold mm_r32; omega)
    refine ⟨mUp (mUp h 1 4 ((h 1 4 + 1) % 40)) 1 2 (h 1 2 - 1), ?_, fun c i n => ?_, Or.inr ⟨z, ?_, rfl⟩⟩
    · rw [X4_makeRoom_c, if_neg (fun w => w z), w1, mm_tm (by omega)]
      have t : (mUp h 1 4 ((h 1 4 + 1) % 40)) 1 2 = h 1 2 := rfl
      rw [t, w2]
    · rw [mUp_at, mUp_at, if_neg (by omega), if_neg (by omega)]
    · show h 1 2 - 1 = 39
      omega
  · exact ⟨h, by rw [X4_makeRoom_c, if_pos z], fun _ _ _ => rfl, Or.inl ⟨z, rfl, rfl⟩⟩
theorem L_chg (w k v a : Int) : ∀ (m : Nat) (j : Int) (h : mm_M), 1 ≤ j → j ≤ 40 → 40 - j ≤ m → ∃ h' o, mm_ev mX10_changes 2 34 [some (vR 47), some (vI w), some (vI k), some (vI v), some (vI a), some (vI j)] [] h = mm_ev mX10_changes 2 121 [some (vR 47), some (vI w), some (vI k), some (vI v), some (vI a), o] [] (mUp h' 47 14 (w32 (h 47 14 - 1))) ∧ (∀ c, (c < 56 ∨ 59 < c) → h' c = h c) ∧ ∀ c, 56 ≤ c → c ≤ 59 → ∀ x, h' c x = if j - 1 ≤ x ∧ x < 39 then h c (x + 1) else h c x := by
  intro m
  induction m with
  | zero =>
    intro j h j1 j40 hm
    refine ⟨h, some (vI j), ?_, fun _ _ => rfl, fun c _ _ x => ?_⟩
    · rw [X10_changes_34, if_pos (by omega)]
    · rw [if_neg (by omega)]
  | succ m ih =>
    intro j h j1 j40 hm
    by_cases z : 40 ≤ j
    · refine ⟨h, some (vI j), ?_, fun _ _ => rfl, fun c _ _ x => ?_⟩
      · rw [X10_changes_34, if_pos z]
      · rw [if_neg (by omega)]
    · have w1 : w32 (j - 1) = j - 1 := w32_id (by unfold mm_r32; omega)
      have w2 : w32 (j + 1) = j + 1 := w32_id (by unfold mm_r32; omega)
      have b1 : 0 ≤ j ∧ j < 40 := by omega
      have b2 : 0 ≤ j - 1 ∧ j - 1 < 40 := by omega
      obtain ⟨h', o, e1, e2, e3⟩ := ih (j + 1) (mUp (mUp (mUp (mUp h 56 (j - 1) (h 56 j)) 57 (j - 1) (h 57 j)) 58 (j - 1) (h 58 j)) 59 (j - 1) (h 59 j)) (by omega) (by omega) (by omega)
      refine ⟨h', o, ?_, fun c hc => ?_, fun c c1 c2 x => ?_⟩
      · rw [X10_changes_34, if_neg z, w1, w2, if_pos b1, if_pos b2, if_pos b1, if_pos b2, if_pos b1, if_pos b2, if_pos b1, if_pos b2]
        exact e1
      · rw [e2 c hc, mUp_ne (by omega), mUp_ne (by omega), mUp_ne (by omega), mUp_ne (by omega)]
      · rw [e3 c c1 c2 x]
        have g : ∀ y, (mUp (mUp (mUp (mUp h 56 (j - 1) (h 56 j)) 57 (j - 1) (h 57 j)) 58 (j - 1) (h 58 j)) 59 (j - 1) (h 59 j)) c y = if y = j - 1 then h c j else h c y := by
          intro y
          have : c = 56 ∨ c = 57 ∨ c = 58 ∨ c = 59 := by omega
          rcases this with rfl | rfl | rfl | rfl <;> simp [mUp_at]
        rw [g, g]
        by_cases q : x = j - 1
        · rw [if_neg (by omega), if_pos q, if_pos (by omega), q]
          congr 1
          omega
        · rw [if_neg (by omega : ¬ x = j - 1)]
          by_cases q2 : j + 1 - 1 ≤ x ∧ x < 39
          · rw [if_pos q2, if_neg (by omega), if_pos (by omega)]
          · rw [if_neg q2, if_neg (by omega)]
theorem s_room (h : mm_M) (w k v a : Int) (n0 : 0 ≤ h 47 14) (n1 : h 47 14 ≤ 40) (ne : ¬ a = v) : ∃ f o, mm_ev mX10_changes 2 6 [some (vR 47), some (vI w), some (vI k), some (vI v), none, none] [vI a] h = mm_ev mX10_changes 2 121 [some (vR 47), some (vI w), some (vI k), some (vI v), some (vI a), o] [] f ∧ (∀ c i, ¬ (c = 47 ∧ (i = 14 ∨ i = 15)) → (c < 56 ∨ 59 < c) → f c i = h c i) ∧ f 47 15 = 0 ∧ ((¬ h 47 14 = 40 ∧ f 47 14 = h 47 14 ∧ ∀ c, 56 ≤ c → c ≤ 59 → f c = h c) ∨ (h 47 14 = 40 ∧ f 47 14 = 39 ∧ ∀ c, 56 ≤ c → c ≤ 59 → ∀ x, x < 39 → 0 ≤ x → f c x = h c (x + 1))) := by
  by_cases z : h 47 14 = 40
  · have w1 : w32 (h 47 14 - 1) = 39 := by rw [z]; rfl
    obtain ⟨h', o, e1, e2, e3⟩ := L_chg w k v a 39 1 (mUp h 47 15 0) (by omega) (by omega) (by omega)
    refine ⟨mUp h' 47 14 39, o, ?_, fun c i q1 q2 => ?_, ?_, Or.inr ⟨z, rfl, fun c c1 c2 x x1 x0 => ?_⟩⟩
    · rw [X10_changes_6, if_pos ne, if_neg (fun q => q z), e1]
      have t : (mUp h 47 15 0) 47 14 = h 47 14 := rfl
      rw [t, w1]
    · rw [mUp_at, if_neg (by omega), e2 c q2, mUp_at, if_neg (by omega)]
    · show h' 47 15 = 0
      rw [e2 47 (by omega)]
      rfl
    · rw [mUp_ne (by omega), e3 c c1 c2 x, if_pos (by omega), mUp_ne (by omega)]
  · refine ⟨mUp h 47 15 0, none, ?_, fun c i q1 q2 => ?_, rfl, Or.inl ⟨z, rfl, fun c c1 c2 => ?_⟩⟩
    · rw [X10_changes_6, if_pos ne]
      exact if_pos z
    · rw [mUp_at, if_neg (by omega)]
    · rw [mUp_ne (by omega)]
theorem mm_wz_co {h g : mm_M} {k w : Int} (e : g 1 1 = h 1 1) : mm_wz g k w = mm_wz h k w := by
  unfold mm_wz mm_vb
  rw [e]
theorem c_become (h : mm_M) (w k v : Int) (z : mm_wk w k) (hU : mm_RU h) (ne : ¬ v = h 11 (mm_ct 100 w + k)) : ∃ g0, mm_call mX4_become [vR 1, vI (mm_ct 100 w + k), vI v] h = some ([vI (h 11 (mm_ct 100 w + k))], mUp (mUp (mUp (mUp (mUp (mUp g0 12 ((g0 1 4 + g0 1 2) % 40) (mm_ct 100 w + k)) 13 ((g0 1 4 + g0 1 2) % 40) (h 11 (mm_ct 100 w + k))) 14 ((g0 1 4 + g0 1 2) % 40) v) 1 2 (g0 1 2 + 1)) 1 3 0) 11 (mm_ct 100 w + k) v) ∧ (∀ c i, ¬ (c = 1 ∧ 2 ≤ i ∧ i ≤ 4) → g0 c i = h c i) ∧ ((¬ h 1 2 = 40 ∧ g0 1 2 = h 1 2 ∧ g0 1 4 = h 1 4) ∨ (h 1 2 = 40 ∧ g0 1 2 = 39 ∧ g0 1 4 = (h 1 4 + 1) % 40)) := by
  obtain ⟨g0, r1, r2, r3⟩ := c_room h hU
  obtain ⟨u1, u2, u3, u4, u5, u6, u7, u8⟩ := hU
  obtain ⟨k1, k2, k3⟩ := mm_cell z
  refine ⟨g0, ?_, r2, r3⟩
  have w1 : w32 (g0 1 4 + g0 1 2) = g0 1 4 + g0 1 2 := w32_id (by unfold mm_r32; omega)
  have w2 : w32 (g0 1 2 + 1) = g0 1 2 + 1 := w32_id (by unfold mm_r32; omega)
  have m2 : 0 ≤ (g0 1 4 + g0 1 2) % 40 ∧ (g0 1 4 + g0 1 2) % 40 < 40 := by omega
  rw [X4_become_c, if_pos ⟨k1, k2⟩, if_neg ne, r1, mm_bs]
  refine (X4_become_16 _ _ _ _).trans ?_
  show (if 0 ≤ ((w32 ((g0 1 4) + (g0 1 2))).tmod 40) ∧ ((w32 ((g0 1 4) + (g0 1 2))).tmod 40) < 40 then _ else _) = _
  rw [w1, mm_tm (by omega), if_pos m2, if_pos m2, if_pos m2, if_pos ⟨k1, k2⟩]
  have t : (mUp (mUp (mUp g0 12 ((g0 1 4 + g0 1 2) % 40) (mm_ct 100 w + k)) 13 ((g0 1 4 + g0 1 2) % 40) (h 11 (mm_ct 100 w + k))) 14 ((g0 1 4 + g0 1 2) % 40) v) 1 2 = g0 1 2 := rfl
  rw [t, w2]
theorem s_changes (g : mm_M) (w k v : Int) (z : mm_wk w k) (n0 : 0 ≤ g 47 14) (n1 : g 47 14 ≤ 40) (ne : ¬ mm_vAt g w k = v) : ∃ f, mm_call mX10_changes [vR 47, vI w, vI k, vI v] g = some ([vI (mm_vAt g w k)], mm_ly (mUp (mUp (mUp (mUp (mUp f 56 (f 47 14) w) 57 (f 47 14) k) 58 (f 47 14) (mm_vAt g w k)) 59 (f 47 14) v) 47 14 (f 47 14 + 1)) w k v) ∧ (∀ c i, ¬ (c = 47 ∧ (i = 14 ∨ i = 15)) → (c < 56 ∨ 59 < c) → f c i = g c i) ∧ f 47 15 = 0 ∧ ((¬ g 47 14 = 40 ∧ f 47 14 = g 47 14 ∧ ∀ c, 56 ≤ c → c ≤ 59 → f c = g c) ∨ (g 47 14 = 40 ∧ f 47 14 = 39 ∧ ∀ c, 56 ≤ c → c ≤ 59 → ∀ x, x < 39 → 0 ≤ x → f c x = g c (x + 1))) := by
  obtain ⟨f, o, e1, e2, e3, e4⟩ := s_room g w k v (mm_vAt g w k) n0 n1 ne
  refine ⟨f, ?_, e2, e3, e4⟩
  have b : 0 ≤ f 47 14 ∧ f 47 14 < 40 := by omega
  have w1 : w32 (f 47 14 + 1) = f 47 14 + 1 := w32_id (by unfold mm_r32; omega)
  rw [X10_changes_c, s_valueAt g w k z, mm_bs]
  refine Eq.trans e1 ?_
  rw [X10_changes_121, if_pos b]
  have t1 : (mUp f 56 (f 47 14) w) 47 14 = f 47 14 := rfl
  rw [t1, if_pos b]
  have t2 : (mUp (mUp f 56 (f 47 14) w) 57 (f 47 14) k) 47 14 = f 47 14 := rfl
  rw [t2, if_pos b]
  have t3 : (mUp (mUp (mUp f 56 (f 47 14) w) 57 (f 47 14) k) 58 (f 47 14) (mm_vAt g w k)) 47 14 = f 47 14 := rfl
  rw [t3, if_pos b]
  have t4 : (mUp (mUp (mUp (mUp f 56 (f 47 14) w) 57 (f 47 14) k) 58 (f 47 14) (mm_vAt g w k)) 59 (f 47 14) v) 47 14 = f 47 14 := rfl
  rw [t4, w1, s_lays _ _ _ _ z, mm_bs]
  exact X10_changes_179 _ _ _ _ _ _
