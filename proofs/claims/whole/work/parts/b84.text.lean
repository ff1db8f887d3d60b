/-! THE READING: the class's text and operators. -/
def xRu (m : zM) (p : Int) (j : Nat) (R : zRu) : Prop := m (p + 3) (j : Int) = R.1 ∧ (∀ nm, R.2.1 = some nm → m (p + 2) (j : Int) = zenc 32 nm) ∧ m (p + 4) (j : Int) = (R.2.2.1 : Int) ∧ m (p + 5) (j : Int) = (R.2.2.2.1 : Int) ∧ m (p + 6) (j : Int) = (R.2.2.2.2 : Int)
def xRls (m : zM) (p : Int) (rs : List zRu) : Prop := (m p 7) = (rs.length : Int) ∧ ∀ j : Nat, j < rs.length → xRu m p j (rs.getD j zru0)
theorem xRls_fr {m m1 : zM} {p : Int} {rs : List zRu} (R : xRls m p rs) (w : ∀ i j, (p + 2 ≤ i ∧ i ≤ p + 6) ∨ i = p ∧ j = 7 → m1 i j = m i j) : xRls m1 p rs := by
  refine ⟨by rw [w _ _ (by omega)]; exact R.1, fun j hj => ?_⟩
  have r := R.2 j hj
  unfold xRu at r ⊢
  rw [w (p + 3) _ (by omega), w (p + 2) _ (by omega), w (p + 4) _ (by omega), w (p + 5) _ (by omega), w (p + 6) _ (by omega)]
  exact r
theorem gdr_app (rs : List zRu) (R : zRu) (j : Nat) : (rs ++ [R]).getD j zru0 = if j < rs.length then rs.getD j zru0 else if j = rs.length then R else zru0 := by
  rw [List.getD_eq_getElem?_getD, List.getD_eq_getElem?_getD]
  by_cases h : j < rs.length
  · rw [if_pos h, List.getElem?_append_left h]
  · rw [if_neg h, List.getElem?_append_right (by omega)]
    by_cases h2 : j = rs.length
    · subst h2; rw [if_pos rfl, Nat.sub_self]; rfl
    · rw [if_neg h2, List.getElem?_eq_none (by simp; omega)]; rfl
theorem gdr_set (rs : List zRu) (k j : Nat) (R : zRu) (hk : k < rs.length) : (rs.set k R).getD j zru0 = if j = k then R else rs.getD j zru0 := by
  rw [List.getD_eq_getElem?_getD, List.getElem?_set, List.getD_eq_getElem?_getD]
  by_cases h : k = j
  · subst h; rw [if_pos rfl, if_pos rfl, if_pos hk]; rfl
  · rw [if_neg h, if_neg (fun q => h q.symm)]
theorem c_Tx_openRule {d : Nat} {p so : Int} {rs : List zRu} {cn : Nat} {m : zM} {h : zH} {Q : zQ} (T : ztx m h p) (R : xRls m p rs) (hr : rs.length < 24) (hc : (m p 6) = (cn : Int))
    (K : ∀ m' : zM, (∀ i j, ¬ (p + 3 ≤ i ∧ i ≤ p + 6) → ¬ (i = p ∧ j = 7) → m' i j = m i j) → xRls m' p (rs ++ [(so, none, cn, cn, cn)]) → Q none m' h) : zcal WP (d + 1) n_Tx_openRule [.inr (.inr p), .inl so] m h Q := by
  obtain ⟨tp, tn, tk, ⟨t0, t1, t2, t3, t4, t5⟩, _, _, ⟨u1, u2⟩, ⟨v1, v2⟩, ⟨x1, x2⟩, ⟨y1, y2⟩⟩ := T
  obtain ⟨r1, r2⟩ := R
  apply e_Tx_openRule
  apply s_Tx_openRule_0
  rw [r1, t2]
  refine ⟨tk, fun z => by omega, fun _ => ⟨tk, tk, u1, by omega, by omega, by rw [u2]; omega, fun m1 e1 => ?_⟩⟩
  have o1 : ∀ i j, i ≠ p + 3 → m1 i j = m i j := fun i j y => by rw [e1, zwr_ap, if_neg (by omega)]
  rw [o1 p 3 (by omega), o1 p 7 (by omega), o1 p 6 (by omega), t3, r1, hc]
  refine ⟨tk, tk, tk, v1, by omega, by omega, by rw [v2]; omega, fun m2 e2 => ?_⟩
  have o2 : ∀ i j, i ≠ p + 3 → i ≠ p + 4 → m2 i j = m i j := fun i j y z => by rw [e2, zwr_ap, if_neg (by omega)]; exact o1 i j y
  rw [o2 p 4 (by omega) (by omega), o2 p 7 (by omega) (by omega), o2 p 6 (by omega) (by omega), t4, r1, hc]
  refine ⟨tk, tk, tk, x1, by omega, by omega, by rw [x2]; omega, fun m3 e3 => ?_⟩
  have o3 : ∀ i j, i ≠ p + 3 → i ≠ p + 4 → i ≠ p + 5 → m3 i j = m i j := fun i j y z w => by rw [e3, zwr_ap, if_neg (by omega)]; exact o2 i j y z
  rw [o3 p 5 (by omega) (by omega) (by omega), o3 p 7 (by omega) (by omega) (by omega), o3 p 6 (by omega) (by omega) (by omega), t5, r1, hc]
  refine ⟨tk, tk, tk, y1, by omega, by omega, by rw [y2]; omega, fun m4 e4 => ?_⟩
  have o4 : ∀ i j, i ≠ p + 3 → i ≠ p + 4 → i ≠ p + 5 → i ≠ p + 6 → m4 i j = m i j := fun i j y z w v => by rw [e4, zwr_ap, if_neg (by omega)]; exact o3 i j y z w
  rw [o4 p 7 (by omega) (by omega) (by omega) (by omega), r1, w32_id (by omega) (by omega)]
  refine ⟨tk, tk, by omega, fun m5 e5 => K m5 (fun i j y z => by rw [e5, zwr_ap, if_neg z]; exact o4 i j (by omega) (by omega) (by omega) (by omega)) ⟨?_, fun j hj => ?_⟩⟩
  · rw [e5, zwr_eq, List.length_append, List.length_singleton]; omega
  · rw [List.length_append, List.length_singleton] at hj
    have a3 : m5 (p + 3) (j : Int) = if j = rs.length then so else m (p + 3) (j : Int) := by
      rw [e5, zwr_ap, if_neg (by omega), e4, zwr_ap, if_neg (by omega), e3, zwr_ap, if_neg (by omega), e2, zwr_ap, if_neg (by omega), e1, zwr_ap]
      by_cases z : j = rs.length
      · rw [if_pos (by omega), if_pos z]
      · rw [if_neg (by omega), if_neg z]
    have a4 : m5 (p + 4) (j : Int) = if j = rs.length then (cn : Int) else m (p + 4) (j : Int) := by
      rw [e5, zwr_ap, if_neg (by omega), e4, zwr_ap, if_neg (by omega), e3, zwr_ap, if_neg (by omega), e2, zwr_ap]
      by_cases z : j = rs.length
      · rw [if_pos (by omega), if_pos z]
      · rw [if_neg (by omega), if_neg z, o1 _ _ (by omega)]
    have a5 : m5 (p + 5) (j : Int) = if j = rs.length then (cn : Int) else m (p + 5) (j : Int) := by
      rw [e5, zwr_ap, if_neg (by omega), e4, zwr_ap, if_neg (by omega), e3, zwr_ap]
      by_cases z : j = rs.length
      · rw [if_pos (by omega), if_pos z]
      · rw [if_neg (by omega), if_neg z, o2 _ _ (by omega) (by omega)]
    have a6 : m5 (p + 6) (j : Int) = if j = rs.length then (cn : Int) else m (p + 6) (j : Int) := by
      rw [e5, zwr_ap, if_neg (by omega), e4, zwr_ap]
      by_cases z : j = rs.length
      · rw [if_pos (by omega), if_pos z]
      · rw [if_neg (by omega), if_neg z, o3 _ _ (by omega) (by omega) (by omega)]
    have a2 : m5 (p + 2) (j : Int) = m (p + 2) (j : Int) := by rw [e5, zwr_ap, if_neg (by omega)]; exact o4 _ _ (by omega) (by omega) (by omega) (by omega)
    unfold xRu
    rw [a2, a3, a4, a5, a6, gdr_app]
    by_cases z : j = rs.length
    · rw [if_neg (by omega : ¬ j < rs.length)]
      simp only [if_pos z]
      exact ⟨trivial, fun nm q => (by cases q), trivial, trivial, trivial⟩
    · rw [if_pos (by omega : j < rs.length)]
      simp only [if_neg z]
      exact r2 j (by omega)
theorem xRls_cup {m m1 : zM} {p : Int} {rs : List zRu} {f : zRu → zRu} (R : xRls m p rs) (h0 : 0 < rs.length) (w7 : m1 p 7 = m p 7) (w : ∀ i j, p + 2 ≤ i → i ≤ p + 6 → j ≠ ((rs.length - 1 : Nat) : Int) → m1 i j = m i j) (hf : xRu m1 p (rs.length - 1) (f (clst rs))) : xRls m1 p (cup rs f) := by
  unfold cup
  refine ⟨by rw [w7, List.length_set]; exact R.1, fun j hj => ?_⟩
  rw [List.length_set] at hj
  rw [gdr_set _ _ _ _ (by omega)]
  by_cases z : j = rs.length - 1
  · subst z; rw [if_pos rfl]; exact hf
  · rw [if_neg z]
    have r := R.2 j hj
    unfold xRu at r ⊢
    rw [w (p + 3) _ (by omega) (by omega) (by omega), w (p + 2) _ (by omega) (by omega) (by omega), w (p + 4) _ (by omega) (by omega) (by omega), w (p + 5) _ (by omega) (by omega) (by omega), w (p + 6) _ (by omega) (by omega) (by omega)]
    exact r
theorem xRls_last {m : zM} {p : Int} {rs : List zRu} (R : xRls m p rs) (h0 : 0 < rs.length) : xRu m p (rs.length - 1) (clst rs) := R.2 _ (by omega)
theorem c_Tx_nameRule {d : Nat} {p v : Int} {rs : List zRu} {nm : List Int} {m : zM} {h : zH} {Q : zQ} (T : ztx m h p) (R : xRls m p rs) (h0 : 0 < rs.length) (hr : rs.length ≤ 24) (hv : v = zenc 32 nm)
    (K : ∀ m' : zM, (∀ i j, i ≠ p + 2 → m' i j = m i j) → xRls m' p (cup rs (fun R => (R.1, some nm, R.2.2))) → Q none m' h) : zcal WP (d + 1) n_Tx_nameRule [.inr (.inr p), .inr (.inl v)] m h Q := by
  obtain ⟨tp, tn, tk, ⟨t0, t1, t2, t3, t4, t5⟩, _, ⟨u1, u2⟩, _⟩ := T
  have la := xRls_last R h0
  apply e_Tx_nameRule
  apply s_Tx_nameRule_0
  rw [R.1, t1, w32_id (by omega) (by omega), show (rs.length : Int) - 1 = ((rs.length - 1 : Nat) : Int) by omega]
  refine ⟨tk, fun z => by omega, fun _ => ⟨tk, tk, u1, by omega, by omega, by rw [u2]; omega, fun m1 e1 => K m1 (fun i j y => by rw [e1, zwr_ap, if_neg (by omega)]) (xRls_cup R h0 (by rw [e1, zwr_ap, if_neg (by omega)]) (fun i j y1 y2 y3 => by rw [e1, zwr_ap, if_neg (by omega)]) ?_)⟩⟩
  unfold xRu at la ⊢
  rw [e1, zwr_ap, if_neg (by omega), zwr_eq, zwr_ap, if_neg (by omega), zwr_ap, if_neg (by omega), zwr_ap, if_neg (by omega)]
  exact ⟨la.1, fun x q => by rw [← Option.some.inj q]; exact hv, la.2.2⟩
theorem c_Tx_openCondition {d : Nat} {p : Int} {rs : List zRu} {cn : Nat} {m : zM} {h : zH} {Q : zQ} (T : ztx m h p) (R : xRls m p rs) (h0 : 0 < rs.length) (hr : rs.length ≤ 24) (hc : (m p 6) = (cn : Int))
    (K : ∀ m' : zM, (∀ i j, i ≠ p + 5 → m' i j = m i j) → xRls m' p (cup rs (fun R => (R.1, R.2.1, R.2.2.1, cn, R.2.2.2.2))) → Q none m' h) : zcal WP (d + 1) n_Tx_openCondition [.inr (.inr p)] m h Q := by
  obtain ⟨tp, tn, tk, ⟨t0, t1, t2, t3, t4, t5⟩, _, _, _, _, ⟨u1, u2⟩, _⟩ := T
  have la := xRls_last R h0
  apply e_Tx_openCondition
  apply s_Tx_openCondition_0
  rw [R.1, t4, hc, w32_id (by omega) (by omega), show (rs.length : Int) - 1 = ((rs.length - 1 : Nat) : Int) by omega]
  refine ⟨tk, fun z => by omega, fun _ => ⟨tk, tk, tk, u1, by omega, by omega, by rw [u2]; omega, fun m1 e1 => K m1 (fun i j y => by rw [e1, zwr_ap, if_neg (by omega)]) (xRls_cup R h0 (by rw [e1, zwr_ap, if_neg (by omega)]) (fun i j y1 y2 y3 => by rw [e1, zwr_ap, if_neg (by omega)]) ?_)⟩⟩
  unfold xRu at la ⊢
  rw [e1, zwr_ap, if_neg (by omega), zwr_ap, if_neg (by omega), zwr_ap, if_neg (by omega), zwr_eq, zwr_ap, if_neg (by omega)]
  exact ⟨la.1, la.2.1, la.2.2.1, rfl, la.2.2.2.2⟩
theorem c_Tx_closeRule {d : Nat} {p : Int} {rs : List zRu} {cn : Nat} {m : zM} {h : zH} {Q : zQ} (T : ztx m h p) (R : xRls m p rs) (h0 : 0 < rs.length) (hr : rs.length ≤ 24) (hc : (m p 6) = (cn : Int))
    (K : ∀ m' : zM, (∀ i j, i ≠ p + 6 → m' i j = m i j) → xRls m' p (cup rs (fun R => (R.1, R.2.1, R.2.2.1, R.2.2.2.1, cn))) → Q none m' h) : zcal WP (d + 1) n_Tx_closeRule [.inr (.inr p)] m h Q := by
  obtain ⟨tp, tn, tk, ⟨t0, t1, t2, t3, t4, t5⟩, _, _, _, _, _, ⟨u1, u2⟩⟩ := T
  have la := xRls_last R h0
  apply e_Tx_closeRule
  apply s_Tx_closeRule_0
  rw [R.1, t5, hc, w32_id (by omega) (by omega), show (rs.length : Int) - 1 = ((rs.length - 1 : Nat) : Int) by omega]
  refine ⟨tk, fun z => by omega, fun _ => ⟨tk, tk, tk, u1, by omega, by omega, by rw [u2]; omega, fun m1 e1 => K m1 (fun i j y => by rw [e1, zwr_ap, if_neg (by omega)]) (xRls_cup R h0 (by rw [e1, zwr_ap, if_neg (by omega)]) (fun i j y1 y2 y3 => by rw [e1, zwr_ap, if_neg (by omega)]) ?_)⟩⟩
  unfold xRu at la ⊢
  rw [e1, zwr_ap, if_neg (by omega), zwr_ap, if_neg (by omega), zwr_ap, if_neg (by omega), zwr_ap, if_neg (by omega), zwr_eq]
  exact ⟨la.1, la.2.1, la.2.2.1, la.2.2.2.1, rfl⟩
theorem c_Tx_sortOfLatest {d : Nat} {p : Int} {rs : List zRu} {m : zM} {h : zH} {P : Int → zM → zH → Prop} (T : ztx m h p) (R : xRls m p rs) (h0 : 0 < rs.length) (hr : rs.length ≤ 24) (K : P (clst rs).1 m h) : zcal WP (d + 1) n_Tx_sortOfLatest [.inr (.inr p)] m h (zk1 P) := by
  obtain ⟨tp, tn, tk, ⟨t0, t1, t2, t3, t4, t5⟩, _, _, ⟨u1, u2⟩, _⟩ := T
  have la := xRls_last R h0
  apply e_Tx_sortOfLatest
  apply s_Tx_sortOfLatest_0
  rw [R.1, t2, w32_id (by omega) (by omega), show (rs.length : Int) - 1 = ((rs.length - 1 : Nat) : Int) by omega, la.1]
  exact ⟨tk, fun z => by omega, fun _ => ⟨tk, tk, u1, by omega, by rw [u2]; omega, _, rfl, K⟩⟩
theorem c_Rd_keepWaiting {d : Nat} {o : Int} {st : List Int} {m : zM} {h : zH} {Q : zQ} (F : zFix m) (L : zLay h) (hw : (m 9 5) = (st.length : Int)) (hs : xStk m st) (hl : st.length < 400)
    (K : ∀ m' : zM, (∀ i j, ¬ (i = 18 ∧ j = (st.length : Int)) → ¬ (i = 9 ∧ j = 5) → m' i j = m i j) → (m' 9 5) = ((o :: st).length : Int) → xStk m' (o :: st) → Q none m' h) : zcal WP (d + 1) n_Rd_keepWaiting [.inr (.inr 9), .inl o] m h Q := by
  apply e_Rd_keepWaiting
  apply s_Rd_keepWaiting_0
  rw [hw, f9_4 F]
  refine ⟨k9 L, fun z => by omega, fun _ => ⟨k9 L, k9 L, k18 L, by decide, by omega, by rw [l18 L]; omega, fun m1 e1 => ?_⟩⟩
  have v1 : m1 9 5 = (st.length : Int) := by rw [e1, zwr_ap, if_neg (by omega)]; exact hw
  rw [v1, w32_id (by omega) (by omega)]
  refine ⟨k9 L, k9 L, by decide, fun m2 e2 => K m2 (fun i j y1 y2 => by rw [e2, zwr_ap, if_neg y2, e1, zwr_ap, if_neg y1]) (by rw [e2, zwr_eq, List.length_cons]; omega) ⟨?_, xStk_fr st (fun j hj => ?_) hs⟩⟩
  · rw [e2, zwr_ap, if_neg (by omega), e1, zwr_eq]
  · rw [e2, zwr_ap, if_neg (by omega), e1, zwr_ap, if_neg (by omega)]
