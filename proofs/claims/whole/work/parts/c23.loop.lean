/-! THE LAW: its loop (genloop.py). -/
theorem zlar {N : Int} {xs : Nat → Int32} {m : zM} {h : zH} {i : Nat} {k : Int} (L : zLay h) (S : zScr N xs m h) (k0 : 0 ≤ k) (hi : (i : Int) + k < N) (hN : N ≤ 4608) : (kd h (-1) = 101 ∧ 0 ≤ w32 ((i : Int) + k) ∧ w32 ((i : Int) + k) < ln h (-1)) ∧ m (-1) (w32 ((i : Int) + k)) = (xs (i + k.toNat)).toInt := by
  rw [w32_id (by omega) (by omega), S.1]
  refine ⟨⟨L.2.2.1, by omega, by omega⟩, ?_⟩
  have := S.2 (i + k.toNat)
  rw [show ((i + k.toNat : Nat) : Int) = (i : Int) + k by omega] at this
  exact this
theorem zlq_fin {d k : Nat} {A : List zV} {m : zM} {h : zH} {v : Int} {R E : zM → zH → Prop} (C : zcal WP d k A m h (zk1 fun r2 m2 h2 => v = r2 ∧ R m2 h2)) : zcal WP d k A m h (zk1 fun r2 m2 h2 => (v = r2 → R m2 h2) ∧ (¬ v = r2 → E m2 h2)) :=
  zcal_weak C fun r m1 h1 q => by
    obtain ⟨v2, e, a, b⟩ := q
    exact ⟨v2, e, fun _ => b, fun z => absurd a z⟩
theorem zlq_mk {P : Int → zM → zH → Prop} {r : Option zV} {v : Int} {m : zM} {h : zH} (hv : r = some (.inl v)) (H : P v m h) : zk1 P r m h := ⟨v, hv, H⟩
set_option maxHeartbeats 40000000 in
theorem zlq_loop {d : Nat} {N : Int} {xs : Nat → Int32} {Q : zQ} (hN : N ≤ 4608) (N0 : 0 ≤ N) (KQ : ∀ (g : zM) (X : zTX) (m : zM) (h : zH), zINV N xs g X m h → Q (some (.inl 1)) m h) : ∀ (t i : Nat) (g : zM) (X : zTX) (m : zM) (h : zH), N ≤ (i : Int) + t → zINV N xs g X m h → q_Lw_law_18 (d + 12) (-1) 1 54 (i : Int) m h Q := by
  intro t
  induction t with
  | zero =>
    intro i g X m h hi I
    have S := I.2.1
    have L := I.1
    apply s_Lw_law_18
    rw [S.1, w32_id (x := N - 9) (by omega) (by omega), L.2.2.1]
    exact ⟨by decide, fun _ => ⟨Or.inr rfl, KQ g X m h I⟩, fun z => absurd (by omega) z⟩
  | succ t ih =>
    intro i g X m h hi I
    have S := I.2.1
    have L := I.1
    by_cases hs : N - 9 < (i : Int)
    · apply s_Lw_law_18
      rw [S.1, w32_id (x := N - 9) (by omega) (by omega), L.2.2.1]
      exact ⟨by decide, fun _ => ⟨Or.inr rfl, KQ g X m h I⟩, fun z => absurd hs z⟩
    have nx' : ∀ g' X' m' h', zINV N xs g' X' m' h' → q_Lw_law_18 (d + 12) (-1) 1 54 (w32 ((i : Int) + 9)) m' h' Q := fun g' X' m' h' I' => by
      rw [w32_id (by omega) (by omega), show (i : Int) + 9 = ((i + 9 : Nat) : Int) by omega]
      exact ih (i + 9) g' X' m' h' (by omega) I'
    have x1 := zlar (i := i) (k := 1) L S (by decide) (by omega) hN
    have x2 := zlar (i := i) (k := 2) L S (by decide) (by omega) hN
    have x3 := zlar (i := i) (k := 3) L S (by decide) (by omega) hN
    have x4 := zlar (i := i) (k := 4) L S (by decide) (by omega) hN
    have x5 := zlar (i := i) (k := 5) L S (by decide) (by omega) hN
    have x6 := zlar (i := i) (k := 6) L S (by decide) (by omega) hN
    have x7 := zlar (i := i) (k := 7) L S (by decide) (by omega) hN
    have x8 := zlar (i := i) (k := 8) L S (by decide) (by omega) hN
    apply s_Lw_law_18
    refine ⟨by rw [L.2.2.1]; decide, fun z => absurd (by rw [S.1, w32_id (x := N - 9) (by omega) (by omega)] at z; exact z) hs, fun _ => ⟨L.2.2.1, by omega, by rw [S.1]; omega, ⟨fun _ => ?_, fun _ => ⟨fun _ => ?_, fun _ => ⟨fun _ => ?_, fun _ => ⟨fun _ => ?_, fun _ => ⟨fun _ => ?_, fun _ => ⟨fun _ => ?_, fun _ => ⟨fun _ => ?_, fun _ => ⟨fun _ => ?_, fun _ => ⟨fun _ => ?_, fun _ => ⟨fun _ => ?_, fun _ => ⟨fun _ => ?_, fun _ => ⟨fun _ => ?_, fun _ => ⟨fun _ => ?_, fun _ => ⟨fun _ => ?_, fun _ => ⟨fun _ => ?_, fun _ => ⟨fun _ => ?_, fun _ => ⟨fun _ => ?_, fun _ => ⟨fun _ => ?_, fun _ => ⟨fun _ => ?_, fun _ => ⟨fun _ => ?_, fun _ => ⟨fun _ => ?_, fun _ => ⟨fun _ => ?_, fun _ => ⟨fun _ => ?_, fun _ => ⟨fun _ => ?_, fun _ => ⟨fun _ => ?_, fun _ => ⟨fun _ => ?_, fun _ => ⟨fun _ => ?_, fun _ => ⟨fun _ => ?_, fun _ => ⟨fun _ => ?_, fun _ => ⟨fun _ => ?_, fun _ => ⟨fun _ => ?_, fun _ => ⟨fun _ => ?_, fun _ => ⟨fun _ => ?_, fun _ => ⟨fun _ => ?_, fun _ => ⟨fun _ => ?_, fun _ => ⟨fun _ => ?_, fun _ => ⟨fun _ => ?_, fun _ => ⟨fun _ => ?_, fun _ => ⟨fun _ => ?_, fun _ => ⟨fun _ => ?_, fun _ => ⟨fun _ => ?_, fun _ => nx' g X m h I⟩⟩⟩⟩⟩⟩⟩⟩⟩⟩⟩⟩⟩⟩⟩⟩⟩⟩⟩⟩⟩⟩⟩⟩⟩⟩⟩⟩⟩⟩⟩⟩⟩⟩⟩⟩⟩⟩⟩⟩⟩⟩⟩
    · -- 0
      rw [x1.2, x2.2, x3.2, x4.2, x5.2]
      refine ⟨x1.1.1, x1.1.2.1, x1.1.2.2, x2.1.1, x2.1.2.1, x2.1.2.2, x3.1.1, x3.1.2.1, x3.1.2.2, x4.1.1, x4.1.2.1, x4.1.2.2, x5.1.1, x5.1.2.1, x5.1.2.2, k1 L, zcal_weak (k_feed N xs g X m h (fun m' h' => q_Lw_law_18 (d + 12) (-1) 1 54 (w32 ((i : Int) + 9)) m' h' Q) I nx') fun r m1 h1 q => ?_⟩
      obtain ⟨v, hv, L1, S1, C⟩ := q
      have y1 := zlar (i := i) (k := 1) L1 S1 (by decide) (by omega) hN
      have y2 := zlar (i := i) (k := 2) L1 S1 (by decide) (by omega) hN
      have y3 := zlar (i := i) (k := 3) L1 S1 (by decide) (by omega) hN
      have y4 := zlar (i := i) (k := 4) L1 S1 (by decide) (by omega) hN
      have y5 := zlar (i := i) (k := 5) L1 S1 (by decide) (by omega) hN
      refine zlq_mk hv ?_
      rw [y1.2, y2.2, y3.2, y4.2, y5.2]
      exact ⟨y1.1.1, y1.1.2.1, y1.1.2.2, y2.1.1, y2.1.2.1, y2.1.2.2, y3.1.1, y3.1.2.1, y3.1.2.2, y4.1.1, y4.1.2.1, y4.1.2.2, y5.1.1, y5.1.2.1, y5.1.2.2, k54 L1, zlq_fin C⟩
    · -- 1
      rw [x1.2]
      refine ⟨x1.1.1, x1.1.2.1, x1.1.2.2, k1 L, zcal_weak (k_back N xs g X m h (fun m' h' => q_Lw_law_18 (d + 12) (-1) 1 54 (w32 ((i : Int) + 9)) m' h' Q) I nx') fun r m1 h1 q => ?_⟩
      obtain ⟨v, hv, L1, S1, C⟩ := q
      have y1 := zlar (i := i) (k := 1) L1 S1 (by decide) (by omega) hN
      refine zlq_mk hv ?_
      rw [y1.2]
      exact ⟨y1.1.1, y1.1.2.1, y1.1.2.2, k54 L1, zlq_fin C⟩
    · -- 2
      refine ⟨k1 L, zcal_weak (k_read N xs g X m h (fun m' h' => q_Lw_law_18 (d + 12) (-1) 1 54 (w32 ((i : Int) + 9)) m' h' Q) I nx') fun r m1 h1 q => ?_⟩
      obtain ⟨v, hv, L1, S1, C⟩ := q
      refine zlq_mk hv ?_
      exact ⟨k54 L1, zlq_fin C⟩
    · -- 3
      refine ⟨k1 L, zcal_weak (k_place N xs g X m h (fun m' h' => q_Lw_law_18 (d + 12) (-1) 1 54 (w32 ((i : Int) + 9)) m' h' Q) I nx') fun r m1 h1 q => ?_⟩
      obtain ⟨v, hv, L1, S1, C⟩ := q
      refine zlq_mk hv ?_
      exact ⟨k54 L1, zlq_fin C⟩
    · -- 4
      refine ⟨k1 L, zcal_weak (k_shed N xs g X m h (fun m' h' => q_Lw_law_18 (d + 12) (-1) 1 54 (w32 ((i : Int) + 9)) m' h' Q) I nx') fun r m1 h1 q => ?_⟩
      obtain ⟨v, hv, L1, S1, C⟩ := q
      refine zlq_mk hv ?_
      exact ⟨k54 L1, zlq_fin C⟩
    · -- 5
      rw [x1.2, x2.2, x3.2]
      refine ⟨x1.1.1, x1.1.2.1, x1.1.2.2, x2.1.1, x2.1.2.1, x2.1.2.2, x3.1.1, x3.1.2.1, x3.1.2.2, k1 L, zcal_weak (k_way N xs g X m h (fun m' h' => q_Lw_law_18 (d + 12) (-1) 1 54 (w32 ((i : Int) + 9)) m' h' Q) I nx') fun r m1 h1 q => ?_⟩
      obtain ⟨v, hv, L1, S1, C⟩ := q
      have y1 := zlar (i := i) (k := 1) L1 S1 (by decide) (by omega) hN
      have y2 := zlar (i := i) (k := 2) L1 S1 (by decide) (by omega) hN
      have y3 := zlar (i := i) (k := 3) L1 S1 (by decide) (by omega) hN
      refine zlq_mk hv ?_
      rw [y1.2, y2.2, y3.2]
      exact ⟨y1.1.1, y1.1.2.1, y1.1.2.2, y2.1.1, y2.1.2.1, y2.1.2.2, y3.1.1, y3.1.2.1, y3.1.2.2, k54 L1, zlq_fin C⟩
    · -- 6
      rw [x1.2, x2.2]
      refine ⟨x1.1.1, x1.1.2.1, x1.1.2.2, x2.1.1, x2.1.2.1, x2.1.2.2, k1 L, zcal_weak (k_engine N xs g X m h (fun m' h' => q_Lw_law_18 (d + 12) (-1) 1 54 (w32 ((i : Int) + 9)) m' h' Q) I nx') fun r m1 h1 q => ?_⟩
      obtain ⟨v, hv, L1, S1, C⟩ := q
      have y1 := zlar (i := i) (k := 1) L1 S1 (by decide) (by omega) hN
      have y2 := zlar (i := i) (k := 2) L1 S1 (by decide) (by omega) hN
      refine zlq_mk hv ?_
      rw [y1.2, y2.2]
      exact ⟨y1.1.1, y1.1.2.1, y1.1.2.2, y2.1.1, y2.1.2.1, y2.1.2.2, k54 L1, zlq_fin C⟩
    · -- 7
      rw [x1.2]
      refine ⟨x1.1.1, x1.1.2.1, x1.1.2.2, k1 L, zcal_weak (k_man N xs g X m h (fun m' h' => q_Lw_law_18 (d + 12) (-1) 1 54 (w32 ((i : Int) + 9)) m' h' Q) I nx') fun r m1 h1 q => ?_⟩
      obtain ⟨v, hv, L1, S1, C⟩ := q
      have y1 := zlar (i := i) (k := 1) L1 S1 (by decide) (by omega) hN
      refine zlq_mk hv ?_
      rw [y1.2]
      exact ⟨y1.1.1, y1.1.2.1, y1.1.2.2, k54 L1, zlq_fin C⟩
    · -- 8
      rw [x1.2, x2.2, x3.2, x4.2, x5.2, x6.2, x7.2, x8.2]
      refine ⟨x1.1.1, x1.1.2.1, x1.1.2.2, x2.1.1, x2.1.2.1, x2.1.2.2, x3.1.1, x3.1.2.1, x3.1.2.2, x4.1.1, x4.1.2.1, x4.1.2.2, x5.1.1, x5.1.2.1, x5.1.2.2, x6.1.1, x6.1.2.1, x6.1.2.2, x7.1.1, x7.1.2.1, x7.1.2.2, x8.1.1, x8.1.2.1, x8.1.2.2, fun z => ?_, fun z => ?_⟩
      · apply s_Lw_law_488
        refine ⟨k1 L, zcal_weak (k_turn N xs (Or.inl rfl) g X m h (fun m' h' => q_Lw_law_18 (d + 12) (-1) 1 54 (w32 ((i : Int) + 9)) m' h' Q) I nx') fun r m1 h1 q => ?_⟩
        obtain ⟨v, hv, L1, S1, C⟩ := q
        have y1 := zlar (i := i) (k := 1) L1 S1 (by decide) (by omega) hN
        have y2 := zlar (i := i) (k := 2) L1 S1 (by decide) (by omega) hN
        have y3 := zlar (i := i) (k := 3) L1 S1 (by decide) (by omega) hN
        have y4 := zlar (i := i) (k := 4) L1 S1 (by decide) (by omega) hN
        have y5 := zlar (i := i) (k := 5) L1 S1 (by decide) (by omega) hN
        have y6 := zlar (i := i) (k := 6) L1 S1 (by decide) (by omega) hN
        have y7 := zlar (i := i) (k := 7) L1 S1 (by decide) (by omega) hN
        have y8 := zlar (i := i) (k := 8) L1 S1 (by decide) (by omega) hN
        refine zlq_mk hv ?_
        rw [y1.2, y2.2, y3.2, y4.2, y5.2, y6.2, y7.2, y8.2]
        exact ⟨y1.1.1, y1.1.2.1, y1.1.2.2, y2.1.1, y2.1.2.1, y2.1.2.2, y3.1.1, y3.1.2.1, y3.1.2.2, y4.1.1, y4.1.2.1, y4.1.2.2, y5.1.1, y5.1.2.1, y5.1.2.2, y6.1.1, y6.1.2.1, y6.1.2.2, y7.1.1, y7.1.2.1, y7.1.2.2, y8.1.1, y8.1.2.1, y8.1.2.2, fun _ => ⟨k54 L1, zlq_fin C⟩, fun y => absurd z y⟩
      · apply s_Lw_law_488
        refine ⟨k1 L, zcal_weak (k_turn N xs (Or.inr rfl) g X m h (fun m' h' => q_Lw_law_18 (d + 12) (-1) 1 54 (w32 ((i : Int) + 9)) m' h' Q) I nx') fun r m1 h1 q => ?_⟩
        obtain ⟨v, hv, L1, S1, C⟩ := q
        have y1 := zlar (i := i) (k := 1) L1 S1 (by decide) (by omega) hN
        have y2 := zlar (i := i) (k := 2) L1 S1 (by decide) (by omega) hN
        have y3 := zlar (i := i) (k := 3) L1 S1 (by decide) (by omega) hN
        have y4 := zlar (i := i) (k := 4) L1 S1 (by decide) (by omega) hN
        have y5 := zlar (i := i) (k := 5) L1 S1 (by decide) (by omega) hN
        have y6 := zlar (i := i) (k := 6) L1 S1 (by decide) (by omega) hN
        have y7 := zlar (i := i) (k := 7) L1 S1 (by decide) (by omega) hN
        have y8 := zlar (i := i) (k := 8) L1 S1 (by decide) (by omega) hN
        refine zlq_mk hv ?_
        rw [y1.2, y2.2, y3.2, y4.2, y5.2, y6.2, y7.2, y8.2]
        exact ⟨y1.1.1, y1.1.2.1, y1.1.2.2, y2.1.1, y2.1.2.1, y2.1.2.2, y3.1.1, y3.1.2.1, y3.1.2.2, y4.1.1, y4.1.2.1, y4.1.2.2, y5.1.1, y5.1.2.1, y5.1.2.2, y6.1.1, y6.1.2.1, y6.1.2.2, y7.1.1, y7.1.2.1, y7.1.2.2, y8.1.1, y8.1.2.1, y8.1.2.2, fun y => absurd y z, fun _ => ⟨k54 L1, zlq_fin C⟩⟩
    · -- 9
      rw [x1.2, x2.2, x3.2, x4.2]
      refine ⟨x1.1.1, x1.1.2.1, x1.1.2.2, x2.1.1, x2.1.2.1, x2.1.2.2, x3.1.1, x3.1.2.1, x3.1.2.2, x4.1.1, x4.1.2.1, x4.1.2.2, k1 L, zcal_weak (k_run N xs g X m h (fun m' h' => q_Lw_law_18 (d + 12) (-1) 1 54 (w32 ((i : Int) + 9)) m' h' Q) I nx') fun r m1 h1 q => ?_⟩
      obtain ⟨v, hv, L1, S1, C⟩ := q
      have y1 := zlar (i := i) (k := 1) L1 S1 (by decide) (by omega) hN
      have y2 := zlar (i := i) (k := 2) L1 S1 (by decide) (by omega) hN
      have y3 := zlar (i := i) (k := 3) L1 S1 (by decide) (by omega) hN
      have y4 := zlar (i := i) (k := 4) L1 S1 (by decide) (by omega) hN
      refine zlq_mk hv ?_
      rw [y1.2, y2.2, y3.2, y4.2]
      exact ⟨y1.1.1, y1.1.2.1, y1.1.2.2, y2.1.1, y2.1.2.1, y2.1.2.2, y3.1.1, y3.1.2.1, y3.1.2.2, y4.1.1, y4.1.2.1, y4.1.2.2, k54 L1, zlq_fin C⟩
    · -- 10
      rw [x1.2, x2.2]
      refine ⟨x1.1.1, x1.1.2.1, x1.1.2.2, x2.1.1, x2.1.2.1, x2.1.2.2, k1 L, zcal_weak (k_mile N xs g X m h (fun m' h' => q_Lw_law_18 (d + 12) (-1) 1 54 (w32 ((i : Int) + 9)) m' h' Q) I nx') fun r m1 h1 q => ?_⟩
      obtain ⟨v, hv, L1, S1, C⟩ := q
      have y1 := zlar (i := i) (k := 1) L1 S1 (by decide) (by omega) hN
      have y2 := zlar (i := i) (k := 2) L1 S1 (by decide) (by omega) hN
      refine zlq_mk hv ?_
      rw [y1.2, y2.2]
      exact ⟨y1.1.1, y1.1.2.1, y1.1.2.2, y2.1.1, y2.1.2.1, y2.1.2.2, k54 L1, zlq_fin C⟩
    · -- 11
      rw [x1.2, x2.2, x3.2]
      refine ⟨x1.1.1, x1.1.2.1, x1.1.2.2, x2.1.1, x2.1.2.1, x2.1.2.2, x3.1.1, x3.1.2.1, x3.1.2.2, k1 L, zcal_weak (k_fact N xs g X m h (fun m' h' => q_Lw_law_18 (d + 12) (-1) 1 54 (w32 ((i : Int) + 9)) m' h' Q) I nx') fun r m1 h1 q => ?_⟩
      obtain ⟨v, hv, L1, S1, C⟩ := q
      have y1 := zlar (i := i) (k := 1) L1 S1 (by decide) (by omega) hN
      have y2 := zlar (i := i) (k := 2) L1 S1 (by decide) (by omega) hN
      have y3 := zlar (i := i) (k := 3) L1 S1 (by decide) (by omega) hN
      refine zlq_mk hv ?_
      rw [y1.2, y2.2, y3.2]
      exact ⟨y1.1.1, y1.1.2.1, y1.1.2.2, y2.1.1, y2.1.2.1, y2.1.2.2, y3.1.1, y3.1.2.1, y3.1.2.2, k54 L1, zlq_fin C⟩
    · -- 12
      rw [x1.2, x2.2, x3.2]
      refine ⟨x1.1.1, x1.1.2.1, x1.1.2.2, x2.1.1, x2.1.2.1, x2.1.2.2, x3.1.1, x3.1.2.1, x3.1.2.2, k1 L, zcal_weak (k_shops N xs g X m h (fun m' h' => q_Lw_law_18 (d + 12) (-1) 1 54 (w32 ((i : Int) + 9)) m' h' Q) I nx') fun r m1 h1 q => ?_⟩
      obtain ⟨v, hv, L1, S1, C⟩ := q
      have y1 := zlar (i := i) (k := 1) L1 S1 (by decide) (by omega) hN
      have y2 := zlar (i := i) (k := 2) L1 S1 (by decide) (by omega) hN
      have y3 := zlar (i := i) (k := 3) L1 S1 (by decide) (by omega) hN
      refine zlq_mk hv ?_
      rw [y1.2, y2.2, y3.2]
      exact ⟨y1.1.1, y1.1.2.1, y1.1.2.2, y2.1.1, y2.1.2.1, y2.1.2.2, y3.1.1, y3.1.2.1, y3.1.2.2, k54 L1, zlq_fin C⟩
    · -- 13
      rw [x1.2, x2.2, x3.2]
      refine ⟨x1.1.1, x1.1.2.1, x1.1.2.2, x2.1.1, x2.1.2.1, x2.1.2.2, x3.1.1, x3.1.2.1, x3.1.2.2, k1 L, zcal_weak (k_fails N xs g X m h (fun m' h' => q_Lw_law_18 (d + 12) (-1) 1 54 (w32 ((i : Int) + 9)) m' h' Q) I nx') fun r m1 h1 q => ?_⟩
      obtain ⟨v, hv, L1, S1, C⟩ := q
      have y1 := zlar (i := i) (k := 1) L1 S1 (by decide) (by omega) hN
      have y2 := zlar (i := i) (k := 2) L1 S1 (by decide) (by omega) hN
      have y3 := zlar (i := i) (k := 3) L1 S1 (by decide) (by omega) hN
      refine zlq_mk hv ?_
      rw [y1.2, y2.2, y3.2]
      exact ⟨y1.1.1, y1.1.2.1, y1.1.2.2, y2.1.1, y2.1.2.1, y2.1.2.2, y3.1.1, y3.1.2.1, y3.1.2.2, k54 L1, zlq_fin C⟩
    · -- 14
      rw [x1.2, x2.2, x3.2]
      refine ⟨x1.1.1, x1.1.2.1, x1.1.2.2, x2.1.1, x2.1.2.1, x2.1.2.2, x3.1.1, x3.1.2.1, x3.1.2.2, k1 L, zcal_weak (k_lent N xs g X m h (fun m' h' => q_Lw_law_18 (d + 12) (-1) 1 54 (w32 ((i : Int) + 9)) m' h' Q) I nx') fun r m1 h1 q => ?_⟩
      obtain ⟨v, hv, L1, S1, C⟩ := q
      have y1 := zlar (i := i) (k := 1) L1 S1 (by decide) (by omega) hN
      have y2 := zlar (i := i) (k := 2) L1 S1 (by decide) (by omega) hN
      have y3 := zlar (i := i) (k := 3) L1 S1 (by decide) (by omega) hN
      refine zlq_mk hv ?_
      rw [y1.2, y2.2, y3.2]
      exact ⟨y1.1.1, y1.1.2.1, y1.1.2.2, y2.1.1, y2.1.2.1, y2.1.2.2, y3.1.1, y3.1.2.1, y3.1.2.2, k54 L1, zlq_fin C⟩
    · -- 15
      rw [x1.2, x2.2, x3.2]
      refine ⟨x1.1.1, x1.1.2.1, x1.1.2.2, x2.1.1, x2.1.2.1, x2.1.2.2, x3.1.1, x3.1.2.1, x3.1.2.2, k1 L, zcal_weak (k_coals N xs g X m h (fun m' h' => q_Lw_law_18 (d + 12) (-1) 1 54 (w32 ((i : Int) + 9)) m' h' Q) I nx') fun r m1 h1 q => ?_⟩
      obtain ⟨v, hv, L1, S1, C⟩ := q
      have y1 := zlar (i := i) (k := 1) L1 S1 (by decide) (by omega) hN
      have y2 := zlar (i := i) (k := 2) L1 S1 (by decide) (by omega) hN
      have y3 := zlar (i := i) (k := 3) L1 S1 (by decide) (by omega) hN
      refine zlq_mk hv ?_
      rw [y1.2, y2.2, y3.2]
      exact ⟨y1.1.1, y1.1.2.1, y1.1.2.2, y2.1.1, y2.1.2.1, y2.1.2.2, y3.1.1, y3.1.2.1, y3.1.2.2, k54 L1, zlq_fin C⟩
    · -- 16
      rw [x1.2]
      refine ⟨x1.1.1, x1.1.2.1, x1.1.2.2, k1 L, zcal_weak (k_rules N xs g X m h (fun m' h' => q_Lw_law_18 (d + 12) (-1) 1 54 (w32 ((i : Int) + 9)) m' h' Q) I nx') fun r m1 h1 q => ?_⟩
      obtain ⟨v, hv, L1, S1, C⟩ := q
      have y1 := zlar (i := i) (k := 1) L1 S1 (by decide) (by omega) hN
      refine zlq_mk hv ?_
      rw [y1.2]
      exact ⟨y1.1.1, y1.1.2.1, y1.1.2.2, k54 L1, zlq_fin C⟩
    · -- 17
      rw [x1.2, x2.2, x3.2]
      refine ⟨x1.1.1, x1.1.2.1, x1.1.2.2, x2.1.1, x2.1.2.1, x2.1.2.2, x3.1.1, x3.1.2.1, x3.1.2.2, k1 L, zcal_weak (k_rule N xs g X m h (fun m' h' => q_Lw_law_18 (d + 12) (-1) 1 54 (w32 ((i : Int) + 9)) m' h' Q) I nx') fun r m1 h1 q => ?_⟩
      obtain ⟨v, hv, L1, S1, C⟩ := q
      have y1 := zlar (i := i) (k := 1) L1 S1 (by decide) (by omega) hN
      have y2 := zlar (i := i) (k := 2) L1 S1 (by decide) (by omega) hN
      have y3 := zlar (i := i) (k := 3) L1 S1 (by decide) (by omega) hN
      refine zlq_mk hv ?_
      rw [y1.2, y2.2, y3.2]
      exact ⟨y1.1.1, y1.1.2.1, y1.1.2.2, y2.1.1, y2.1.2.1, y2.1.2.2, y3.1.1, y3.1.2.1, y3.1.2.2, k54 L1, zlq_fin C⟩
    · -- 18
      rw [x1.2, x2.2, x3.2, x4.2]
      refine ⟨x1.1.1, x1.1.2.1, x1.1.2.2, x2.1.1, x2.1.2.1, x2.1.2.2, x3.1.1, x3.1.2.1, x3.1.2.2, x4.1.1, x4.1.2.1, x4.1.2.2, k1 L, zcal_weak (k_state N xs g X m h (fun m' h' => q_Lw_law_18 (d + 12) (-1) 1 54 (w32 ((i : Int) + 9)) m' h' Q) I nx') fun r m1 h1 q => ?_⟩
      obtain ⟨v, hv, L1, S1, C⟩ := q
      have y1 := zlar (i := i) (k := 1) L1 S1 (by decide) (by omega) hN
      have y2 := zlar (i := i) (k := 2) L1 S1 (by decide) (by omega) hN
      have y3 := zlar (i := i) (k := 3) L1 S1 (by decide) (by omega) hN
      have y4 := zlar (i := i) (k := 4) L1 S1 (by decide) (by omega) hN
      refine zlq_mk hv ?_
      rw [y1.2, y2.2, y3.2, y4.2]
      exact ⟨y1.1.1, y1.1.2.1, y1.1.2.2, y2.1.1, y2.1.2.1, y2.1.2.2, y3.1.1, y3.1.2.1, y3.1.2.2, y4.1.1, y4.1.2.1, y4.1.2.2, k54 L1, zlq_fin C⟩
    · -- 19
      rw [x1.2, x2.2]
      refine ⟨x1.1.1, x1.1.2.1, x1.1.2.2, x2.1.1, x2.1.2.1, x2.1.2.2, k1 L, zcal_weak (k_isVoid N xs g X m h (fun m' h' => q_Lw_law_18 (d + 12) (-1) 1 54 (w32 ((i : Int) + 9)) m' h' Q) I nx') fun r m1 h1 q => ?_⟩
      obtain ⟨v, hv, L1, S1, C⟩ := q
      have y1 := zlar (i := i) (k := 1) L1 S1 (by decide) (by omega) hN
      have y2 := zlar (i := i) (k := 2) L1 S1 (by decide) (by omega) hN
      refine zlq_mk hv ?_
      rw [y1.2, y2.2]
      exact ⟨y1.1.1, y1.1.2.1, y1.1.2.2, y2.1.1, y2.1.2.1, y2.1.2.2, k54 L1, zlq_fin C⟩
    · -- 20
      rw [x1.2, x2.2, x3.2]
      refine ⟨x1.1.1, x1.1.2.1, x1.1.2.2, x2.1.1, x2.1.2.1, x2.1.2.2, x3.1.1, x3.1.2.1, x3.1.2.2, k1 L, zcal_weak (k_held N xs g X m h (fun m' h' => q_Lw_law_18 (d + 12) (-1) 1 54 (w32 ((i : Int) + 9)) m' h' Q) I nx') fun r m1 h1 q => ?_⟩
      obtain ⟨v, hv, L1, S1, C⟩ := q
      have y1 := zlar (i := i) (k := 1) L1 S1 (by decide) (by omega) hN
      have y2 := zlar (i := i) (k := 2) L1 S1 (by decide) (by omega) hN
      have y3 := zlar (i := i) (k := 3) L1 S1 (by decide) (by omega) hN
      refine zlq_mk hv ?_
      rw [y1.2, y2.2, y3.2]
      exact ⟨y1.1.1, y1.1.2.1, y1.1.2.2, y2.1.1, y2.1.2.1, y2.1.2.2, y3.1.1, y3.1.2.1, y3.1.2.2, k54 L1, zlq_fin C⟩
    · -- 21
      rw [x1.2, x2.2]
      refine ⟨x1.1.1, x1.1.2.1, x1.1.2.2, x2.1.1, x2.1.2.1, x2.1.2.2, k1 L, zcal_weak (k_bar N xs g X m h (fun m' h' => q_Lw_law_18 (d + 12) (-1) 1 54 (w32 ((i : Int) + 9)) m' h' Q) I nx') fun r m1 h1 q => ?_⟩
      obtain ⟨v, hv, L1, S1, C⟩ := q
      have y1 := zlar (i := i) (k := 1) L1 S1 (by decide) (by omega) hN
      have y2 := zlar (i := i) (k := 2) L1 S1 (by decide) (by omega) hN
      refine zlq_mk hv ?_
      rw [y1.2, y2.2]
      exact ⟨y1.1.1, y1.1.2.1, y1.1.2.2, y2.1.1, y2.1.2.1, y2.1.2.2, k54 L1, zlq_fin C⟩
    · -- 22
      rw [x1.2, x2.2, x3.2]
      refine ⟨x1.1.1, x1.1.2.1, x1.1.2.2, x2.1.1, x2.1.2.1, x2.1.2.2, x3.1.1, x3.1.2.1, x3.1.2.2, k1 L, zcal_weak (k_due N xs g X m h (fun m' h' => q_Lw_law_18 (d + 12) (-1) 1 54 (w32 ((i : Int) + 9)) m' h' Q) I nx') fun r m1 h1 q => ?_⟩
      obtain ⟨v, hv, L1, S1, C⟩ := q
      have y1 := zlar (i := i) (k := 1) L1 S1 (by decide) (by omega) hN
      have y2 := zlar (i := i) (k := 2) L1 S1 (by decide) (by omega) hN
      have y3 := zlar (i := i) (k := 3) L1 S1 (by decide) (by omega) hN
      refine zlq_mk hv ?_
      rw [y1.2, y2.2, y3.2]
      exact ⟨y1.1.1, y1.1.2.1, y1.1.2.2, y2.1.1, y2.1.2.1, y2.1.2.2, y3.1.1, y3.1.2.1, y3.1.2.2, k54 L1, zlq_fin C⟩
    · -- 23
      rw [x1.2, x2.2, x3.2]
      refine ⟨x1.1.1, x1.1.2.1, x1.1.2.2, x2.1.1, x2.1.2.1, x2.1.2.2, x3.1.1, x3.1.2.1, x3.1.2.2, k1 L, zcal_weak (k_beyond N xs g X m h (fun m' h' => q_Lw_law_18 (d + 12) (-1) 1 54 (w32 ((i : Int) + 9)) m' h' Q) I nx') fun r m1 h1 q => ?_⟩
      obtain ⟨v, hv, L1, S1, C⟩ := q
      have y1 := zlar (i := i) (k := 1) L1 S1 (by decide) (by omega) hN
      have y2 := zlar (i := i) (k := 2) L1 S1 (by decide) (by omega) hN
      have y3 := zlar (i := i) (k := 3) L1 S1 (by decide) (by omega) hN
      refine zlq_mk hv ?_
      rw [y1.2, y2.2, y3.2]
      exact ⟨y1.1.1, y1.1.2.1, y1.1.2.2, y2.1.1, y2.1.2.1, y2.1.2.2, y3.1.1, y3.1.2.1, y3.1.2.2, k54 L1, zlq_fin C⟩
    · -- 24
      rw [x1.2, x2.2]
      refine ⟨x1.1.1, x1.1.2.1, x1.1.2.2, x2.1.1, x2.1.2.1, x2.1.2.2, k1 L, zcal_weak (k_help N xs g X m h (fun m' h' => q_Lw_law_18 (d + 12) (-1) 1 54 (w32 ((i : Int) + 9)) m' h' Q) I nx') fun r m1 h1 q => ?_⟩
      obtain ⟨v, hv, L1, S1, C⟩ := q
      have y1 := zlar (i := i) (k := 1) L1 S1 (by decide) (by omega) hN
      have y2 := zlar (i := i) (k := 2) L1 S1 (by decide) (by omega) hN
      refine zlq_mk hv ?_
      rw [y1.2, y2.2]
      exact ⟨y1.1.1, y1.1.2.1, y1.1.2.2, y2.1.1, y2.1.2.1, y2.1.2.2, k54 L1, zlq_fin C⟩
    · -- 25
      rw [x1.2, x2.2, x3.2]
      refine ⟨x1.1.1, x1.1.2.1, x1.1.2.2, x2.1.1, x2.1.2.1, x2.1.2.2, x3.1.1, x3.1.2.1, x3.1.2.2, k1 L, zcal_weak (k_coal N xs g X m h (fun m' h' => q_Lw_law_18 (d + 12) (-1) 1 54 (w32 ((i : Int) + 9)) m' h' Q) I nx') fun r m1 h1 q => ?_⟩
      obtain ⟨v, hv, L1, S1, C⟩ := q
      have y1 := zlar (i := i) (k := 1) L1 S1 (by decide) (by omega) hN
      have y2 := zlar (i := i) (k := 2) L1 S1 (by decide) (by omega) hN
      have y3 := zlar (i := i) (k := 3) L1 S1 (by decide) (by omega) hN
      refine zlq_mk hv ?_
      rw [y1.2, y2.2, y3.2]
      exact ⟨y1.1.1, y1.1.2.1, y1.1.2.2, y2.1.1, y2.1.2.1, y2.1.2.2, y3.1.1, y3.1.2.1, y3.1.2.2, k54 L1, zlq_fin C⟩
    · -- 26
      rw [x1.2, x2.2, x3.2, x4.2, x5.2]
      refine ⟨x1.1.1, x1.1.2.1, x1.1.2.2, x2.1.1, x2.1.2.1, x2.1.2.2, x3.1.1, x3.1.2.1, x3.1.2.2, x4.1.1, x4.1.2.1, x4.1.2.2, x5.1.1, x5.1.2.1, x5.1.2.2, k1 L, zcal_weak (k_owes N xs g X m h (fun m' h' => q_Lw_law_18 (d + 12) (-1) 1 54 (w32 ((i : Int) + 9)) m' h' Q) I nx') fun r m1 h1 q => ?_⟩
      obtain ⟨v, hv, L1, S1, C⟩ := q
      have y1 := zlar (i := i) (k := 1) L1 S1 (by decide) (by omega) hN
      have y2 := zlar (i := i) (k := 2) L1 S1 (by decide) (by omega) hN
      have y3 := zlar (i := i) (k := 3) L1 S1 (by decide) (by omega) hN
      have y4 := zlar (i := i) (k := 4) L1 S1 (by decide) (by omega) hN
      have y5 := zlar (i := i) (k := 5) L1 S1 (by decide) (by omega) hN
      refine zlq_mk hv ?_
      rw [y1.2, y2.2, y3.2, y4.2, y5.2]
      exact ⟨y1.1.1, y1.1.2.1, y1.1.2.2, y2.1.1, y2.1.2.1, y2.1.2.2, y3.1.1, y3.1.2.1, y3.1.2.2, y4.1.1, y4.1.2.1, y4.1.2.2, y5.1.1, y5.1.2.1, y5.1.2.2, k54 L1, zlq_fin C⟩
    · -- 27
      rw [x1.2, x2.2, x3.2]
      refine ⟨x1.1.1, x1.1.2.1, x1.1.2.2, x2.1.1, x2.1.2.1, x2.1.2.2, x3.1.1, x3.1.2.1, x3.1.2.2, k1 L, zcal_weak (k_best N xs g X m h (fun m' h' => q_Lw_law_18 (d + 12) (-1) 1 54 (w32 ((i : Int) + 9)) m' h' Q) I nx') fun r m1 h1 q => ?_⟩
      obtain ⟨v, hv, L1, S1, C⟩ := q
      have y1 := zlar (i := i) (k := 1) L1 S1 (by decide) (by omega) hN
      have y2 := zlar (i := i) (k := 2) L1 S1 (by decide) (by omega) hN
      have y3 := zlar (i := i) (k := 3) L1 S1 (by decide) (by omega) hN
      refine zlq_mk hv ?_
      rw [y1.2, y2.2, y3.2]
      exact ⟨y1.1.1, y1.1.2.1, y1.1.2.2, y2.1.1, y2.1.2.1, y2.1.2.2, y3.1.1, y3.1.2.1, y3.1.2.2, k54 L1, zlq_fin C⟩
    · -- 28
      rw [x1.2]
      refine ⟨x1.1.1, x1.1.2.1, x1.1.2.2, k1 L, zcal_weak (k_given N xs g X m h (fun m' h' => q_Lw_law_18 (d + 12) (-1) 1 54 (w32 ((i : Int) + 9)) m' h' Q) I nx') fun r m1 h1 q => ?_⟩
      obtain ⟨v, hv, L1, S1, C⟩ := q
      have y1 := zlar (i := i) (k := 1) L1 S1 (by decide) (by omega) hN
      refine zlq_mk hv ?_
      rw [y1.2]
      exact ⟨y1.1.1, y1.1.2.1, y1.1.2.2, k54 L1, zlq_fin C⟩
    · -- 29
      refine ⟨k1 L, zcal_weak (k_lack N xs g X m h (fun m' h' => q_Lw_law_18 (d + 12) (-1) 1 54 (w32 ((i : Int) + 9)) m' h' Q) I nx') fun r m1 h1 q => ?_⟩
      obtain ⟨v, hv, L1, S1, C⟩ := q
      refine zlq_mk hv ?_
      exact ⟨k54 L1, zlq_fin C⟩
    · -- 30
      rw [x1.2]
      refine ⟨x1.1.1, x1.1.2.1, x1.1.2.2, fun z => ?_, fun z => ?_⟩
      · apply s_Lw_law_1398
        rw [x2.2]
        refine ⟨x2.1.1, x2.1.2.1, x2.1.2.2, k1 L, zcal_weak (k_lines N xs (Or.inl rfl) g X m h (fun m' h' => q_Lw_law_18 (d + 12) (-1) 1 54 (w32 ((i : Int) + 9)) m' h' Q) I nx') fun r m1 h1 q => ?_⟩
        obtain ⟨v, hv, L1, S1, C⟩ := q
        have y1 := zlar (i := i) (k := 1) L1 S1 (by decide) (by omega) hN
        have y2 := zlar (i := i) (k := 2) L1 S1 (by decide) (by omega) hN
        refine zlq_mk hv ?_
        rw [y1.2]
        refine ⟨y1.1.1, y1.1.2.1, y1.1.2.2, fun _ => ?_, fun y => absurd z y⟩
        apply s_Lw_law_1420
        rw [y2.2]
        exact ⟨y2.1.1, y2.1.2.1, y2.1.2.2, k54 L1, zlq_fin C⟩
      · apply s_Lw_law_1398
        rw [x2.2]
        refine ⟨x2.1.1, x2.1.2.1, x2.1.2.2, k1 L, zcal_weak (k_lines N xs (Or.inr rfl) g X m h (fun m' h' => q_Lw_law_18 (d + 12) (-1) 1 54 (w32 ((i : Int) + 9)) m' h' Q) I nx') fun r m1 h1 q => ?_⟩
        obtain ⟨v, hv, L1, S1, C⟩ := q
        have y1 := zlar (i := i) (k := 1) L1 S1 (by decide) (by omega) hN
        have y2 := zlar (i := i) (k := 2) L1 S1 (by decide) (by omega) hN
        refine zlq_mk hv ?_
        rw [y1.2]
        refine ⟨y1.1.1, y1.1.2.1, y1.1.2.2, fun y => absurd y z, fun _ => ?_⟩
        apply s_Lw_law_1420
        rw [y2.2]
        exact ⟨y2.1.1, y2.1.2.1, y2.1.2.2, k54 L1, zlq_fin C⟩
    · -- 31
      exact ⟨k1 L, zcal_weak (k_clear N xs g X m h (fun m' h' => q_Lw_law_18 (d + 12) (-1) 1 54 (w32 ((i : Int) + 9)) m' h' Q) I nx') fun r m1 h1 q => ⟨q.1, k54 q.2.1, q.2.2⟩⟩
    · -- 32
      rw [x1.2]
      refine ⟨x1.1.1, x1.1.2.1, x1.1.2.2, k1 L, zcal_weak (k_roads N xs g X m h (fun m' h' => q_Lw_law_18 (d + 12) (-1) 1 54 (w32 ((i : Int) + 9)) m' h' Q) I nx') fun r m1 h1 q => ?_⟩
      obtain ⟨v, hv, L1, S1, C⟩ := q
      have y1 := zlar (i := i) (k := 1) L1 S1 (by decide) (by omega) hN
      refine zlq_mk hv ?_
      rw [y1.2]
      exact ⟨y1.1.1, y1.1.2.1, y1.1.2.2, k54 L1, zlq_fin C⟩
    · -- 33
      rw [x1.2]
      refine ⟨x1.1.1, x1.1.2.1, x1.1.2.2, k1 L, zcal_weak (k_road N xs g X m h (fun m' h' => q_Lw_law_18 (d + 12) (-1) 1 54 (w32 ((i : Int) + 9)) m' h' Q) I nx') fun r m1 h1 q => ?_⟩
      obtain ⟨v, hv, L1, S1, C⟩ := q
      have y1 := zlar (i := i) (k := 1) L1 S1 (by decide) (by omega) hN
      refine zlq_mk hv ?_
      rw [y1.2]
      exact ⟨y1.1.1, y1.1.2.1, y1.1.2.2, k54 L1, zlq_fin C⟩
    · -- 34
      rw [x1.2, x2.2, x3.2]
      refine ⟨x1.1.1, x1.1.2.1, x1.1.2.2, x2.1.1, x2.1.2.1, x2.1.2.2, x3.1.1, x3.1.2.1, x3.1.2.2, fun z => ?_, fun z => ?_⟩
      · apply s_Lw_law_1514
        refine ⟨k1 L, zcal_weak (k_may N xs (Or.inl rfl) g X m h (fun m' h' => q_Lw_law_18 (d + 12) (-1) 1 54 (w32 ((i : Int) + 9)) m' h' Q) I nx') fun r m1 h1 q => ?_⟩
        obtain ⟨v, hv, L1, S1, C⟩ := q
        have y1 := zlar (i := i) (k := 1) L1 S1 (by decide) (by omega) hN
        have y2 := zlar (i := i) (k := 2) L1 S1 (by decide) (by omega) hN
        have y3 := zlar (i := i) (k := 3) L1 S1 (by decide) (by omega) hN
        refine zlq_mk hv ?_
        rw [y1.2, y2.2, y3.2]
        exact ⟨y1.1.1, y1.1.2.1, y1.1.2.2, y2.1.1, y2.1.2.1, y2.1.2.2, y3.1.1, y3.1.2.1, y3.1.2.2, fun _ => ⟨k54 L1, zlq_fin C⟩, fun y => absurd z y⟩
      · apply s_Lw_law_1514
        refine ⟨k1 L, zcal_weak (k_may N xs (Or.inr rfl) g X m h (fun m' h' => q_Lw_law_18 (d + 12) (-1) 1 54 (w32 ((i : Int) + 9)) m' h' Q) I nx') fun r m1 h1 q => ?_⟩
        obtain ⟨v, hv, L1, S1, C⟩ := q
        have y1 := zlar (i := i) (k := 1) L1 S1 (by decide) (by omega) hN
        have y2 := zlar (i := i) (k := 2) L1 S1 (by decide) (by omega) hN
        have y3 := zlar (i := i) (k := 3) L1 S1 (by decide) (by omega) hN
        refine zlq_mk hv ?_
        rw [y1.2, y2.2, y3.2]
        exact ⟨y1.1.1, y1.1.2.1, y1.1.2.2, y2.1.1, y2.1.2.1, y2.1.2.2, y3.1.1, y3.1.2.1, y3.1.2.2, fun y => absurd y z, fun _ => ⟨k54 L1, zlq_fin C⟩⟩
    · -- 35
      rw [x1.2, x2.2, x3.2, x4.2, x5.2]
      refine ⟨x1.1.1, x1.1.2.1, x1.1.2.2, x2.1.1, x2.1.2.1, x2.1.2.2, x3.1.1, x3.1.2.1, x3.1.2.2, x4.1.1, x4.1.2.1, x4.1.2.2, x5.1.1, x5.1.2.1, x5.1.2.2, k1 L, zcal_weak (k_months N xs g X m h (fun m' h' => q_Lw_law_18 (d + 12) (-1) 1 54 (w32 ((i : Int) + 9)) m' h' Q) I nx') fun r m1 h1 q => ?_⟩
      obtain ⟨v, hv, L1, S1, C⟩ := q
      have y1 := zlar (i := i) (k := 1) L1 S1 (by decide) (by omega) hN
      have y2 := zlar (i := i) (k := 2) L1 S1 (by decide) (by omega) hN
      have y3 := zlar (i := i) (k := 3) L1 S1 (by decide) (by omega) hN
      have y4 := zlar (i := i) (k := 4) L1 S1 (by decide) (by omega) hN
      have y5 := zlar (i := i) (k := 5) L1 S1 (by decide) (by omega) hN
      refine zlq_mk hv ?_
      rw [y1.2, y2.2, y3.2, y4.2, y5.2]
      exact ⟨y1.1.1, y1.1.2.1, y1.1.2.2, y2.1.1, y2.1.2.1, y2.1.2.2, y3.1.1, y3.1.2.1, y3.1.2.2, y4.1.1, y4.1.2.1, y4.1.2.2, y5.1.1, y5.1.2.1, y5.1.2.2, k54 L1, zlq_fin C⟩
    · -- 36
      rw [x1.2]
      refine ⟨x1.1.1, x1.1.2.1, x1.1.2.2, k1 L, zcal_weak (k_month N xs g X m h (fun m' h' => q_Lw_law_18 (d + 12) (-1) 1 54 (w32 ((i : Int) + 9)) m' h' Q) I nx') fun r m1 h1 q => ?_⟩
      obtain ⟨v, hv, L1, S1, C⟩ := q
      have y1 := zlar (i := i) (k := 1) L1 S1 (by decide) (by omega) hN
      refine zlq_mk hv ?_
      rw [y1.2]
      exact ⟨y1.1.1, y1.1.2.1, y1.1.2.2, k54 L1, zlq_fin C⟩
    · -- 37
      rw [x1.2]
      refine ⟨x1.1.1, x1.1.2.1, x1.1.2.2, k1 L, zcal_weak (k_causes N xs g X m h (fun m' h' => q_Lw_law_18 (d + 12) (-1) 1 54 (w32 ((i : Int) + 9)) m' h' Q) I nx') fun r m1 h1 q => ?_⟩
      obtain ⟨v, hv, L1, S1, C⟩ := q
      have y1 := zlar (i := i) (k := 1) L1 S1 (by decide) (by omega) hN
      refine zlq_mk hv ?_
      rw [y1.2]
      exact ⟨y1.1.1, y1.1.2.1, y1.1.2.2, k54 L1, zlq_fin C⟩
    · -- 38
      rw [x1.2, x2.2]
      refine ⟨x1.1.1, x1.1.2.1, x1.1.2.2, x2.1.1, x2.1.2.1, x2.1.2.2, k1 L, zcal_weak (k_cause N xs g X m h (fun m' h' => q_Lw_law_18 (d + 12) (-1) 1 54 (w32 ((i : Int) + 9)) m' h' Q) I nx') fun r m1 h1 q => ?_⟩
      obtain ⟨v, hv, L1, S1, C⟩ := q
      have y1 := zlar (i := i) (k := 1) L1 S1 (by decide) (by omega) hN
      have y2 := zlar (i := i) (k := 2) L1 S1 (by decide) (by omega) hN
      refine zlq_mk hv ?_
      rw [y1.2, y2.2]
      exact ⟨y1.1.1, y1.1.2.1, y1.1.2.2, y2.1.1, y2.1.2.1, y2.1.2.2, k54 L1, zlq_fin C⟩
    · -- 39
      rw [x1.2, x2.2]
      refine ⟨x1.1.1, x1.1.2.1, x1.1.2.2, x2.1.1, x2.1.2.1, x2.1.2.2, k1 L, zcal_weak (k_turned N xs g X m h (fun m' h' => q_Lw_law_18 (d + 12) (-1) 1 54 (w32 ((i : Int) + 9)) m' h' Q) I nx') fun r m1 h1 q => ?_⟩
      obtain ⟨v, hv, L1, S1, C⟩ := q
      have y1 := zlar (i := i) (k := 1) L1 S1 (by decide) (by omega) hN
      have y2 := zlar (i := i) (k := 2) L1 S1 (by decide) (by omega) hN
      refine zlq_mk hv ?_
      rw [y1.2, y2.2]
      exact ⟨y1.1.1, y1.1.2.1, y1.1.2.2, y2.1.1, y2.1.2.1, y2.1.2.2, k54 L1, zlq_fin C⟩
    · -- 40
      rw [x1.2]
      refine ⟨x1.1.1, x1.1.2.1, x1.1.2.2, k1 L, zcal_weak (k_count N xs g X m h (fun m' h' => q_Lw_law_18 (d + 12) (-1) 1 54 (w32 ((i : Int) + 9)) m' h' Q) I nx') fun r m1 h1 q => ?_⟩
      obtain ⟨v, hv, L1, S1, C⟩ := q
      have y1 := zlar (i := i) (k := 1) L1 S1 (by decide) (by omega) hN
      refine zlq_mk hv ?_
      rw [y1.2]
      exact ⟨y1.1.1, y1.1.2.1, y1.1.2.2, k54 L1, zlq_fin C⟩
