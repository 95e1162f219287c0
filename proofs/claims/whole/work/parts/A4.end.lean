/-! the law method from where both objects are made, in the machine itself -/
theorem lw_go16 {p : Program} {e : Env} {s : State} {m : MethodId} {below : List Frame} {meth : Method} {c : Code} (l : Launch) {b L : Nat} {xs : Nat → Int32} (C0 : lw_At p s m meth c b L xs) (D : va_G) (cy : Nat → ClassId) (ad : Nat → Nat) (h : mm_M) (H : Heap) (A : Nat → Prop) (ls : Array Slot) (hA : ∀ q, A q → s.heap.size ≤ q) (hAd : ∀ x, mm_Ad ad x → A x) (hCx : mm_Cx D cy ad A ((fun i => (xs i).toInt), L) mL_law p s m #[Value.ref b] c) (hR : mm_Rp D cy ad A ((fun i => (xs i).toInt), L) s.heap h H []) (hL : mm_lc ad 4 [some (vR 110), some (vR 0), some (vR 47), none] ls) (hI : mm_Inv h) : W p l e room_1 s m #[Value.ref b] below meth c H [] 600000 7302250 (lw_Z below #[Value.ref b] s) (F0 m 16 ls []) := by
  obtain ⟨hx, hb, hr, hml, hown, hts, hX, hbl, hlocks, hgv⟩ := id C0
  have r : ∀ j, mm_r32 (h 110 j) := fun j => by
    have t := hR.2.2.2.1 110 j
    rw [if_neg (by rw [ak110]; decide)] at t
    exact t
  have l0 : 0 ≤ h 110 (-1) := by
    rw [hR.2.2.2.2.1]
    exact Int.natCast_nonneg L
  obtain ⟨h', e1, i2⟩ := lw_all hI r l0
  obtain ⟨n, en⟩ := mm_ev_some e1
  refine mm_sound l D cy ad ((fun i => (xs i).toInt), L) n mL_law 700 16 _ [] h _ en p e room_1 s m _ below meth c H [] 600000 7302250 _ A ls hCx hR hL (fun v hv => by cases hv) hAd ⟨Nat.le_of_ble_eq_true rfl, Nat.le_of_ble_eq_true rfl, Nat.le_refl _, Nat.le_refl _⟩ ?_
  intro pc ins st H1 locs1 ls1 hd hret hst hok hR1
  refine va_forget (fun q hq => ?_) ?_
  · exact hA _ (hR1.2.2.1.2.2 q hq)
  · rw [hst]
    have hi : ins = .ireturn := by
      unfold mm_ret at hret
      split at hret
      · rfl
      · split at hret
        · split at hret
          · cases hret
          · cases hret
        · cases hret
      · split at hret
        · split at hret
          · cases hret
          · cases hret
        · cases hret
      · cases hret
    rw [hi] at hd
    exact lw_ret hx hb hr hlocks hd
