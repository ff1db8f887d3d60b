/-! THE CHECK of the tables, part 0. -/
theorem zchunk {l : List Nat} {f : Nat → Bool} {c N : Nat} (hc : 0 < c) (h : ∀ i, i < N → ((l.drop (c * i)).take c).all f = true) (hl : Nat.ble l.length (c * N) = true) : l.all f = true := by
  refine List.all_eq_true.mpr fun x hx => ?_
  obtain ⟨j, hj, rfl⟩ := List.mem_iff_getElem.mp hx
  have h1 : j / c < N := Nat.div_lt_of_lt_mul (Nat.lt_of_lt_of_le hj (Nat.le_of_ble_eq_true hl))
  refine List.all_eq_true.mp (h (j / c) h1) _ ?_
  refine List.mem_iff_getElem?.mpr ⟨j % c, ?_⟩
  rw [List.getElem?_take, if_pos (Nat.mod_lt _ hc), List.getElem?_drop, Nat.div_add_mod]
  exact List.getElem?_eq_getElem hj
theorem zck_of {k : Nat} (h1 : (zpcs k).all (fun pc => zckI (zow k) k pc (zdc k pc) (zcode k pc)) = true) (h2 : zin k 0 = true) : Z_zck k = true := by
  unfold Z_zck; rw [h1, h2]; rfl
set_option maxRecDepth 1000000 in
theorem zkc_0_0 : (((zpcs 0).drop (48 * 0)).take 48).all (fun pc => zckI (zow 0) 0 pc (zdc 0 pc) (zcode 0 pc)) = true := by decide +kernel
theorem zkd_0_0 : ∀ i, i < 1 → (((zpcs 0).drop (48 * i)).take 48).all (fun pc => zckI (zow 0) 0 pc (zdc 0 pc) (zcode 0 pc)) = true := lt_s lt_0 zkc_0_0
set_option maxRecDepth 1000000 in
theorem zkc_0_1 : (((zpcs 0).drop (48 * 1)).take 48).all (fun pc => zckI (zow 0) 0 pc (zdc 0 pc) (zcode 0 pc)) = true := by decide +kernel
theorem zkd_0_1 : ∀ i, i < 2 → (((zpcs 0).drop (48 * i)).take 48).all (fun pc => zckI (zow 0) 0 pc (zdc 0 pc) (zcode 0 pc)) = true := lt_s zkd_0_0 zkc_0_1
set_option maxRecDepth 1000000 in
theorem zkc_0_2 : (((zpcs 0).drop (48 * 2)).take 48).all (fun pc => zckI (zow 0) 0 pc (zdc 0 pc) (zcode 0 pc)) = true := by decide +kernel
theorem zkd_0_2 : ∀ i, i < 3 → (((zpcs 0).drop (48 * i)).take 48).all (fun pc => zckI (zow 0) 0 pc (zdc 0 pc) (zcode 0 pc)) = true := lt_s zkd_0_1 zkc_0_2
set_option maxRecDepth 1000000 in
theorem zkc_0_3 : (((zpcs 0).drop (48 * 3)).take 48).all (fun pc => zckI (zow 0) 0 pc (zdc 0 pc) (zcode 0 pc)) = true := by decide +kernel
theorem zkd_0_3 : ∀ i, i < 4 → (((zpcs 0).drop (48 * i)).take 48).all (fun pc => zckI (zow 0) 0 pc (zdc 0 pc) (zcode 0 pc)) = true := lt_s zkd_0_2 zkc_0_3
set_option maxRecDepth 1000000 in
theorem zkc_0_4 : (((zpcs 0).drop (48 * 4)).take 48).all (fun pc => zckI (zow 0) 0 pc (zdc 0 pc) (zcode 0 pc)) = true := by decide +kernel
theorem zkd_0_4 : ∀ i, i < 5 → (((zpcs 0).drop (48 * i)).take 48).all (fun pc => zckI (zow 0) 0 pc (zdc 0 pc) (zcode 0 pc)) = true := lt_s zkd_0_3 zkc_0_4
set_option maxRecDepth 1000000 in
theorem zkc_0_5 : (((zpcs 0).drop (48 * 5)).take 48).all (fun pc => zckI (zow 0) 0 pc (zdc 0 pc) (zcode 0 pc)) = true := by decide +kernel
theorem zkd_0_5 : ∀ i, i < 6 → (((zpcs 0).drop (48 * i)).take 48).all (fun pc => zckI (zow 0) 0 pc (zdc 0 pc) (zcode 0 pc)) = true := lt_s zkd_0_4 zkc_0_5
set_option maxRecDepth 1000000 in
theorem zkc_0_6 : (((zpcs 0).drop (48 * 6)).take 48).all (fun pc => zckI (zow 0) 0 pc (zdc 0 pc) (zcode 0 pc)) = true := by decide +kernel
theorem zkd_0_6 : ∀ i, i < 7 → (((zpcs 0).drop (48 * i)).take 48).all (fun pc => zckI (zow 0) 0 pc (zdc 0 pc) (zcode 0 pc)) = true := lt_s zkd_0_5 zkc_0_6
set_option maxRecDepth 1000000 in
theorem zkc_0_7 : (((zpcs 0).drop (48 * 7)).take 48).all (fun pc => zckI (zow 0) 0 pc (zdc 0 pc) (zcode 0 pc)) = true := by decide +kernel
theorem zkd_0_7 : ∀ i, i < 8 → (((zpcs 0).drop (48 * i)).take 48).all (fun pc => zckI (zow 0) 0 pc (zdc 0 pc) (zcode 0 pc)) = true := lt_s zkd_0_6 zkc_0_7
set_option maxRecDepth 1000000 in
theorem zkc_0_8 : (((zpcs 0).drop (48 * 8)).take 48).all (fun pc => zckI (zow 0) 0 pc (zdc 0 pc) (zcode 0 pc)) = true := by decide +kernel
theorem zkd_0_8 : ∀ i, i < 9 → (((zpcs 0).drop (48 * i)).take 48).all (fun pc => zckI (zow 0) 0 pc (zdc 0 pc) (zcode 0 pc)) = true := lt_s zkd_0_7 zkc_0_8
set_option maxRecDepth 1000000 in
theorem zkc_0_9 : (((zpcs 0).drop (48 * 9)).take 48).all (fun pc => zckI (zow 0) 0 pc (zdc 0 pc) (zcode 0 pc)) = true := by decide +kernel
theorem zkd_0_9 : ∀ i, i < 10 → (((zpcs 0).drop (48 * i)).take 48).all (fun pc => zckI (zow 0) 0 pc (zdc 0 pc) (zcode 0 pc)) = true := lt_s zkd_0_8 zkc_0_9
set_option maxRecDepth 1000000 in
theorem zkc_0_10 : (((zpcs 0).drop (48 * 10)).take 48).all (fun pc => zckI (zow 0) 0 pc (zdc 0 pc) (zcode 0 pc)) = true := by decide +kernel
theorem zkd_0_10 : ∀ i, i < 11 → (((zpcs 0).drop (48 * i)).take 48).all (fun pc => zckI (zow 0) 0 pc (zdc 0 pc) (zcode 0 pc)) = true := lt_s zkd_0_9 zkc_0_10
set_option maxRecDepth 1000000 in
theorem zkc_0_11 : (((zpcs 0).drop (48 * 11)).take 48).all (fun pc => zckI (zow 0) 0 pc (zdc 0 pc) (zcode 0 pc)) = true := by decide +kernel
theorem zkd_0_11 : ∀ i, i < 12 → (((zpcs 0).drop (48 * i)).take 48).all (fun pc => zckI (zow 0) 0 pc (zdc 0 pc) (zcode 0 pc)) = true := lt_s zkd_0_10 zkc_0_11
set_option maxRecDepth 1000000 in
theorem zkc_0_12 : (((zpcs 0).drop (48 * 12)).take 48).all (fun pc => zckI (zow 0) 0 pc (zdc 0 pc) (zcode 0 pc)) = true := by decide +kernel
theorem zkd_0_12 : ∀ i, i < 13 → (((zpcs 0).drop (48 * i)).take 48).all (fun pc => zckI (zow 0) 0 pc (zdc 0 pc) (zcode 0 pc)) = true := lt_s zkd_0_11 zkc_0_12
set_option maxRecDepth 1000000 in
theorem zkc_0_13 : (((zpcs 0).drop (48 * 13)).take 48).all (fun pc => zckI (zow 0) 0 pc (zdc 0 pc) (zcode 0 pc)) = true := by decide +kernel
theorem zkd_0_13 : ∀ i, i < 14 → (((zpcs 0).drop (48 * i)).take 48).all (fun pc => zckI (zow 0) 0 pc (zdc 0 pc) (zcode 0 pc)) = true := lt_s zkd_0_12 zkc_0_13
set_option maxRecDepth 1000000 in
theorem zkc_0_14 : (((zpcs 0).drop (48 * 14)).take 48).all (fun pc => zckI (zow 0) 0 pc (zdc 0 pc) (zcode 0 pc)) = true := by decide +kernel
theorem zkd_0_14 : ∀ i, i < 15 → (((zpcs 0).drop (48 * i)).take 48).all (fun pc => zckI (zow 0) 0 pc (zdc 0 pc) (zcode 0 pc)) = true := lt_s zkd_0_13 zkc_0_14
set_option maxRecDepth 1000000 in
theorem zkc_0_15 : (((zpcs 0).drop (48 * 15)).take 48).all (fun pc => zckI (zow 0) 0 pc (zdc 0 pc) (zcode 0 pc)) = true := by decide +kernel
theorem zkd_0_15 : ∀ i, i < 16 → (((zpcs 0).drop (48 * i)).take 48).all (fun pc => zckI (zow 0) 0 pc (zdc 0 pc) (zcode 0 pc)) = true := lt_s zkd_0_14 zkc_0_15
set_option maxRecDepth 1000000 in
theorem zkc_0_16 : (((zpcs 0).drop (48 * 16)).take 48).all (fun pc => zckI (zow 0) 0 pc (zdc 0 pc) (zcode 0 pc)) = true := by decide +kernel
theorem zkd_0_16 : ∀ i, i < 17 → (((zpcs 0).drop (48 * i)).take 48).all (fun pc => zckI (zow 0) 0 pc (zdc 0 pc) (zcode 0 pc)) = true := lt_s zkd_0_15 zkc_0_16
set_option maxRecDepth 1000000 in
theorem zkc_0_17 : (((zpcs 0).drop (48 * 17)).take 48).all (fun pc => zckI (zow 0) 0 pc (zdc 0 pc) (zcode 0 pc)) = true := by decide +kernel
theorem zkd_0_17 : ∀ i, i < 18 → (((zpcs 0).drop (48 * i)).take 48).all (fun pc => zckI (zow 0) 0 pc (zdc 0 pc) (zcode 0 pc)) = true := lt_s zkd_0_16 zkc_0_17
set_option maxRecDepth 1000000 in
theorem zkc_0_18 : (((zpcs 0).drop (48 * 18)).take 48).all (fun pc => zckI (zow 0) 0 pc (zdc 0 pc) (zcode 0 pc)) = true := by decide +kernel
theorem zkd_0_18 : ∀ i, i < 19 → (((zpcs 0).drop (48 * i)).take 48).all (fun pc => zckI (zow 0) 0 pc (zdc 0 pc) (zcode 0 pc)) = true := lt_s zkd_0_17 zkc_0_18
set_option maxRecDepth 1000000 in
theorem zkc_0_19 : (((zpcs 0).drop (48 * 19)).take 48).all (fun pc => zckI (zow 0) 0 pc (zdc 0 pc) (zcode 0 pc)) = true := by decide +kernel
theorem zkd_0_19 : ∀ i, i < 20 → (((zpcs 0).drop (48 * i)).take 48).all (fun pc => zckI (zow 0) 0 pc (zdc 0 pc) (zcode 0 pc)) = true := lt_s zkd_0_18 zkc_0_19
set_option maxRecDepth 1000000 in
theorem zkc_0_20 : (((zpcs 0).drop (48 * 20)).take 48).all (fun pc => zckI (zow 0) 0 pc (zdc 0 pc) (zcode 0 pc)) = true := by decide +kernel
theorem zkd_0_20 : ∀ i, i < 21 → (((zpcs 0).drop (48 * i)).take 48).all (fun pc => zckI (zow 0) 0 pc (zdc 0 pc) (zcode 0 pc)) = true := lt_s zkd_0_19 zkc_0_20
set_option maxRecDepth 1000000 in
theorem zkc_0_21 : (((zpcs 0).drop (48 * 21)).take 48).all (fun pc => zckI (zow 0) 0 pc (zdc 0 pc) (zcode 0 pc)) = true := by decide +kernel
theorem zkd_0_21 : ∀ i, i < 22 → (((zpcs 0).drop (48 * i)).take 48).all (fun pc => zckI (zow 0) 0 pc (zdc 0 pc) (zcode 0 pc)) = true := lt_s zkd_0_20 zkc_0_21
set_option maxRecDepth 1000000 in
theorem zkc_0_22 : (((zpcs 0).drop (48 * 22)).take 48).all (fun pc => zckI (zow 0) 0 pc (zdc 0 pc) (zcode 0 pc)) = true := by decide +kernel
theorem zkd_0_22 : ∀ i, i < 23 → (((zpcs 0).drop (48 * i)).take 48).all (fun pc => zckI (zow 0) 0 pc (zdc 0 pc) (zcode 0 pc)) = true := lt_s zkd_0_21 zkc_0_22
set_option maxRecDepth 1000000 in
theorem zkc_0_23 : (((zpcs 0).drop (48 * 23)).take 48).all (fun pc => zckI (zow 0) 0 pc (zdc 0 pc) (zcode 0 pc)) = true := by decide +kernel
theorem zkd_0_23 : ∀ i, i < 24 → (((zpcs 0).drop (48 * i)).take 48).all (fun pc => zckI (zow 0) 0 pc (zdc 0 pc) (zcode 0 pc)) = true := lt_s zkd_0_22 zkc_0_23
set_option maxRecDepth 1000000 in
theorem zkc_0_24 : (((zpcs 0).drop (48 * 24)).take 48).all (fun pc => zckI (zow 0) 0 pc (zdc 0 pc) (zcode 0 pc)) = true := by decide +kernel
theorem zkd_0_24 : ∀ i, i < 25 → (((zpcs 0).drop (48 * i)).take 48).all (fun pc => zckI (zow 0) 0 pc (zdc 0 pc) (zcode 0 pc)) = true := lt_s zkd_0_23 zkc_0_24
set_option maxRecDepth 1000000 in
theorem zkc_0_25 : (((zpcs 0).drop (48 * 25)).take 48).all (fun pc => zckI (zow 0) 0 pc (zdc 0 pc) (zcode 0 pc)) = true := by decide +kernel
theorem zkd_0_25 : ∀ i, i < 26 → (((zpcs 0).drop (48 * i)).take 48).all (fun pc => zckI (zow 0) 0 pc (zdc 0 pc) (zcode 0 pc)) = true := lt_s zkd_0_24 zkc_0_25
set_option maxRecDepth 1000000 in
theorem zkc_0_26 : (((zpcs 0).drop (48 * 26)).take 48).all (fun pc => zckI (zow 0) 0 pc (zdc 0 pc) (zcode 0 pc)) = true := by decide +kernel
theorem zkd_0_26 : ∀ i, i < 27 → (((zpcs 0).drop (48 * i)).take 48).all (fun pc => zckI (zow 0) 0 pc (zdc 0 pc) (zcode 0 pc)) = true := lt_s zkd_0_25 zkc_0_26
set_option maxRecDepth 1000000 in
theorem zk_0 : Z_zck 0 = true := zck_of (zchunk (c := 48) (N := 27) (by decide) zkd_0_26 (by decide +kernel)) (by decide +kernel)
theorem zka_0 : ∀ a, a < 1 → Z_zck a = true := lt_s lt_0 zk_0
