/-! PURE: first contracts. -/
theorem w32_id {x : Int} (h1 : -2147483648 ≤ x) (h2 : x < 2147483648) : w32 x = x := by
  unfold w32
  first
    | (rw [Int32.toInt_ofInt, show (Int32.size : Nat) = 4294967296 from rfl]; exact Int.bmod_eq_of_le (by omega) (by omega))
    | exact Int.bmod_eq_of_le (by omega) (by omega)
theorem zwr_eq (m : zM) (a i v : Int) : zwr m a i v a i = v := by unfold zwr; rw [if_pos rfl, if_pos rfl]
theorem zwr_ne (m : zM) {a i v b j : Int} (h : b ≠ a ∨ j ≠ i) : zwr m a i v b j = m b j := by
  unfold zwr
  by_cases hb : b = a
  · rw [if_pos hb, if_neg (h.resolve_left (fun z => z hb))]
  · rw [if_neg hb]
theorem c_Mo_back {d : Nat} {a0 a1 : Int} {m : zM} {h : zH} {P : Int → zM → zH → Prop} (hk : kd h a0 = 13) (h0 : 0 < a0) (hr : 0 ≤ m a0 2 ∧ m a0 2 ≤ 2000)
    (H1 : a1 < 0 ∨ m a0 2 < a1 → P (-1) m h) (H2 : 0 ≤ a1 → a1 ≤ m a0 2 → P (m a0 2 - a1) (zwr m a0 2 (m a0 2 - a1)) h) : zcal WP (d + 1) n_Mo_back [.inr (.inr a0), .inl a1] m h (zk1 P) := by
  refine e_Mo_back d a0 a1 m h _ (s_Mo_back_0 d a0 a1 m h _ ⟨fun q => ⟨_, rfl, H1 (Or.inl q)⟩, fun q => ⟨hk, fun q2 => ⟨hk, hk, h0, fun m1 e => ⟨hk, ?_⟩⟩, fun q2 => ⟨_, rfl, H1 (Or.inr (by omega))⟩⟩⟩)
  rw [w32_id (by omega) (by omega)] at e
  subst e
  rw [zwr_eq]
  exact ⟨_, rfl, H2 (by omega) q2⟩
