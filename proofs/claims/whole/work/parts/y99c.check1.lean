/-! THE CHECK of the tables, part 1. -/
set_option maxRecDepth 1000000 in
theorem zk_1 : Z_zck 1 = true := by decide +kernel
theorem zka_1 : ∀ a, a < 2 → Z_zck a = true := lt_s zka_0 zk_1
set_option maxRecDepth 1000000 in
theorem zk_2 : Z_zck 2 = true := by decide +kernel
theorem zka_2 : ∀ a, a < 3 → Z_zck a = true := lt_s zka_1 zk_2
set_option maxRecDepth 1000000 in
theorem zk_3 : Z_zck 3 = true := by decide +kernel
theorem zka_3 : ∀ a, a < 4 → Z_zck a = true := lt_s zka_2 zk_3
set_option maxRecDepth 1000000 in
theorem zk_4 : Z_zck 4 = true := by decide +kernel
theorem zka_4 : ∀ a, a < 5 → Z_zck a = true := lt_s zka_3 zk_4
set_option maxRecDepth 1000000 in
theorem zk_5 : Z_zck 5 = true := by decide +kernel
theorem zka_5 : ∀ a, a < 6 → Z_zck a = true := lt_s zka_4 zk_5
set_option maxRecDepth 1000000 in
theorem zk_6 : Z_zck 6 = true := by decide +kernel
theorem zka_6 : ∀ a, a < 7 → Z_zck a = true := lt_s zka_5 zk_6
set_option maxRecDepth 1000000 in
theorem zk_7 : Z_zck 7 = true := by decide +kernel
theorem zka_7 : ∀ a, a < 8 → Z_zck a = true := lt_s zka_6 zk_7
set_option maxRecDepth 1000000 in
theorem zk_8 : Z_zck 8 = true := by decide +kernel
theorem zka_8 : ∀ a, a < 9 → Z_zck a = true := lt_s zka_7 zk_8
set_option maxRecDepth 1000000 in
theorem zk_9 : Z_zck 9 = true := by decide +kernel
theorem zka_9 : ∀ a, a < 10 → Z_zck a = true := lt_s zka_8 zk_9
set_option maxRecDepth 1000000 in
theorem zk_10 : Z_zck 10 = true := by decide +kernel
theorem zka_10 : ∀ a, a < 11 → Z_zck a = true := lt_s zka_9 zk_10
set_option maxRecDepth 1000000 in
theorem zk_11 : Z_zck 11 = true := by decide +kernel
theorem zka_11 : ∀ a, a < 12 → Z_zck a = true := lt_s zka_10 zk_11
set_option maxRecDepth 1000000 in
theorem zk_12 : Z_zck 12 = true := by decide +kernel
theorem zka_12 : ∀ a, a < 13 → Z_zck a = true := lt_s zka_11 zk_12
set_option maxRecDepth 1000000 in
theorem zk_13 : Z_zck 13 = true := by decide +kernel
theorem zka_13 : ∀ a, a < 14 → Z_zck a = true := lt_s zka_12 zk_13
set_option maxRecDepth 1000000 in
theorem zk_14 : Z_zck 14 = true := by decide +kernel
theorem zka_14 : ∀ a, a < 15 → Z_zck a = true := lt_s zka_13 zk_14
set_option maxRecDepth 1000000 in
theorem zk_15 : Z_zck 15 = true := by decide +kernel
theorem zka_15 : ∀ a, a < 16 → Z_zck a = true := lt_s zka_14 zk_15
set_option maxRecDepth 1000000 in
theorem zk_16 : Z_zck 16 = true := by decide +kernel
theorem zka_16 : ∀ a, a < 17 → Z_zck a = true := lt_s zka_15 zk_16
set_option maxRecDepth 1000000 in
theorem zk_17 : Z_zck 17 = true := by decide +kernel
theorem zka_17 : ∀ a, a < 18 → Z_zck a = true := lt_s zka_16 zk_17
set_option maxRecDepth 1000000 in
theorem zk_18 : Z_zck 18 = true := by decide +kernel
theorem zka_18 : ∀ a, a < 19 → Z_zck a = true := lt_s zka_17 zk_18
set_option maxRecDepth 1000000 in
theorem zk_19 : Z_zck 19 = true := by decide +kernel
theorem zka_19 : ∀ a, a < 20 → Z_zck a = true := lt_s zka_18 zk_19
set_option maxRecDepth 1000000 in
theorem zk_20 : Z_zck 20 = true := by decide +kernel
theorem zka_20 : ∀ a, a < 21 → Z_zck a = true := lt_s zka_19 zk_20
set_option maxRecDepth 1000000 in
theorem zk_21 : Z_zck 21 = true := by decide +kernel
theorem zka_21 : ∀ a, a < 22 → Z_zck a = true := lt_s zka_20 zk_21
set_option maxRecDepth 1000000 in
theorem zk_22 : Z_zck 22 = true := by decide +kernel
theorem zka_22 : ∀ a, a < 23 → Z_zck a = true := lt_s zka_21 zk_22
set_option maxRecDepth 1000000 in
theorem zk_23 : Z_zck 23 = true := by decide +kernel
theorem zka_23 : ∀ a, a < 24 → Z_zck a = true := lt_s zka_22 zk_23
set_option maxRecDepth 1000000 in
theorem zk_24 : Z_zck 24 = true := by decide +kernel
theorem zka_24 : ∀ a, a < 25 → Z_zck a = true := lt_s zka_23 zk_24
set_option maxRecDepth 1000000 in
theorem zk_25 : Z_zck 25 = true := by decide +kernel
theorem zka_25 : ∀ a, a < 26 → Z_zck a = true := lt_s zka_24 zk_25
set_option maxRecDepth 1000000 in
theorem zk_26 : Z_zck 26 = true := by decide +kernel
theorem zka_26 : ∀ a, a < 27 → Z_zck a = true := lt_s zka_25 zk_26
set_option maxRecDepth 1000000 in
theorem zk_27 : Z_zck 27 = true := by decide +kernel
theorem zka_27 : ∀ a, a < 28 → Z_zck a = true := lt_s zka_26 zk_27
set_option maxRecDepth 1000000 in
theorem zk_28 : Z_zck 28 = true := by decide +kernel
theorem zka_28 : ∀ a, a < 29 → Z_zck a = true := lt_s zka_27 zk_28
set_option maxRecDepth 1000000 in
theorem zk_29 : Z_zck 29 = true := by decide +kernel
theorem zka_29 : ∀ a, a < 30 → Z_zck a = true := lt_s zka_28 zk_29
set_option maxRecDepth 1000000 in
theorem zk_30 : Z_zck 30 = true := by decide +kernel
theorem zka_30 : ∀ a, a < 31 → Z_zck a = true := lt_s zka_29 zk_30
set_option maxRecDepth 1000000 in
theorem zk_31 : Z_zck 31 = true := by decide +kernel
theorem zka_31 : ∀ a, a < 32 → Z_zck a = true := lt_s zka_30 zk_31
set_option maxRecDepth 1000000 in
theorem zk_32 : Z_zck 32 = true := by decide +kernel
theorem zka_32 : ∀ a, a < 33 → Z_zck a = true := lt_s zka_31 zk_32
set_option maxRecDepth 1000000 in
theorem zk_33 : Z_zck 33 = true := by decide +kernel
theorem zka_33 : ∀ a, a < 34 → Z_zck a = true := lt_s zka_32 zk_33
set_option maxRecDepth 1000000 in
theorem zk_34 : Z_zck 34 = true := by decide +kernel
theorem zka_34 : ∀ a, a < 35 → Z_zck a = true := lt_s zka_33 zk_34
set_option maxRecDepth 1000000 in
theorem zk_35 : Z_zck 35 = true := by decide +kernel
theorem zka_35 : ∀ a, a < 36 → Z_zck a = true := lt_s zka_34 zk_35
set_option maxRecDepth 1000000 in
theorem zk_36 : Z_zck 36 = true := by decide +kernel
theorem zka_36 : ∀ a, a < 37 → Z_zck a = true := lt_s zka_35 zk_36
set_option maxRecDepth 1000000 in
theorem zk_37 : Z_zck 37 = true := by decide +kernel
theorem zka_37 : ∀ a, a < 38 → Z_zck a = true := lt_s zka_36 zk_37
set_option maxRecDepth 1000000 in
theorem zk_38 : Z_zck 38 = true := by decide +kernel
theorem zka_38 : ∀ a, a < 39 → Z_zck a = true := lt_s zka_37 zk_38
set_option maxRecDepth 1000000 in
theorem zk_39 : Z_zck 39 = true := by decide +kernel
theorem zka_39 : ∀ a, a < 40 → Z_zck a = true := lt_s zka_38 zk_39
set_option maxRecDepth 1000000 in
theorem zk_40 : Z_zck 40 = true := by decide +kernel
theorem zka_40 : ∀ a, a < 41 → Z_zck a = true := lt_s zka_39 zk_40
set_option maxRecDepth 1000000 in
theorem zk_41 : Z_zck 41 = true := by decide +kernel
theorem zka_41 : ∀ a, a < 42 → Z_zck a = true := lt_s zka_40 zk_41
set_option maxRecDepth 1000000 in
theorem zk_42 : Z_zck 42 = true := by decide +kernel
theorem zka_42 : ∀ a, a < 43 → Z_zck a = true := lt_s zka_41 zk_42
set_option maxRecDepth 1000000 in
theorem zk_43 : Z_zck 43 = true := by decide +kernel
theorem zka_43 : ∀ a, a < 44 → Z_zck a = true := lt_s zka_42 zk_43
set_option maxRecDepth 1000000 in
theorem zk_44 : Z_zck 44 = true := by decide +kernel
theorem zka_44 : ∀ a, a < 45 → Z_zck a = true := lt_s zka_43 zk_44
set_option maxRecDepth 1000000 in
theorem zk_45 : Z_zck 45 = true := by decide +kernel
theorem zka_45 : ∀ a, a < 46 → Z_zck a = true := lt_s zka_44 zk_45
set_option maxRecDepth 1000000 in
theorem zk_46 : Z_zck 46 = true := by decide +kernel
theorem zka_46 : ∀ a, a < 47 → Z_zck a = true := lt_s zka_45 zk_46
set_option maxRecDepth 1000000 in
theorem zk_47 : Z_zck 47 = true := by decide +kernel
theorem zka_47 : ∀ a, a < 48 → Z_zck a = true := lt_s zka_46 zk_47
set_option maxRecDepth 1000000 in
theorem zk_48 : Z_zck 48 = true := by decide +kernel
theorem zka_48 : ∀ a, a < 49 → Z_zck a = true := lt_s zka_47 zk_48
set_option maxRecDepth 1000000 in
theorem zkc_49_0 : (((zpcs 49).drop (48 * 0)).take 48).all (fun pc => zckI (zow 49) 49 pc (zdc 49 pc) (zcode 49 pc)) = true := by decide +kernel
theorem zkd_49_0 : ∀ i, i < 1 → (((zpcs 49).drop (48 * i)).take 48).all (fun pc => zckI (zow 49) 49 pc (zdc 49 pc) (zcode 49 pc)) = true := lt_s lt_0 zkc_49_0
set_option maxRecDepth 1000000 in
theorem zkc_49_1 : (((zpcs 49).drop (48 * 1)).take 48).all (fun pc => zckI (zow 49) 49 pc (zdc 49 pc) (zcode 49 pc)) = true := by decide +kernel
theorem zkd_49_1 : ∀ i, i < 2 → (((zpcs 49).drop (48 * i)).take 48).all (fun pc => zckI (zow 49) 49 pc (zdc 49 pc) (zcode 49 pc)) = true := lt_s zkd_49_0 zkc_49_1
set_option maxRecDepth 1000000 in
theorem zkc_49_2 : (((zpcs 49).drop (48 * 2)).take 48).all (fun pc => zckI (zow 49) 49 pc (zdc 49 pc) (zcode 49 pc)) = true := by decide +kernel
theorem zkd_49_2 : ∀ i, i < 3 → (((zpcs 49).drop (48 * i)).take 48).all (fun pc => zckI (zow 49) 49 pc (zdc 49 pc) (zcode 49 pc)) = true := lt_s zkd_49_1 zkc_49_2
set_option maxRecDepth 1000000 in
theorem zkc_49_3 : (((zpcs 49).drop (48 * 3)).take 48).all (fun pc => zckI (zow 49) 49 pc (zdc 49 pc) (zcode 49 pc)) = true := by decide +kernel
theorem zkd_49_3 : ∀ i, i < 4 → (((zpcs 49).drop (48 * i)).take 48).all (fun pc => zckI (zow 49) 49 pc (zdc 49 pc) (zcode 49 pc)) = true := lt_s zkd_49_2 zkc_49_3
set_option maxRecDepth 1000000 in
theorem zkc_49_4 : (((zpcs 49).drop (48 * 4)).take 48).all (fun pc => zckI (zow 49) 49 pc (zdc 49 pc) (zcode 49 pc)) = true := by decide +kernel
theorem zkd_49_4 : ∀ i, i < 5 → (((zpcs 49).drop (48 * i)).take 48).all (fun pc => zckI (zow 49) 49 pc (zdc 49 pc) (zcode 49 pc)) = true := lt_s zkd_49_3 zkc_49_4
set_option maxRecDepth 1000000 in
theorem zkc_49_5 : (((zpcs 49).drop (48 * 5)).take 48).all (fun pc => zckI (zow 49) 49 pc (zdc 49 pc) (zcode 49 pc)) = true := by decide +kernel
theorem zkd_49_5 : ∀ i, i < 6 → (((zpcs 49).drop (48 * i)).take 48).all (fun pc => zckI (zow 49) 49 pc (zdc 49 pc) (zcode 49 pc)) = true := lt_s zkd_49_4 zkc_49_5
set_option maxRecDepth 1000000 in
theorem zkc_49_6 : (((zpcs 49).drop (48 * 6)).take 48).all (fun pc => zckI (zow 49) 49 pc (zdc 49 pc) (zcode 49 pc)) = true := by decide +kernel
theorem zkd_49_6 : ∀ i, i < 7 → (((zpcs 49).drop (48 * i)).take 48).all (fun pc => zckI (zow 49) 49 pc (zdc 49 pc) (zcode 49 pc)) = true := lt_s zkd_49_5 zkc_49_6
set_option maxRecDepth 1000000 in
theorem zkc_49_7 : (((zpcs 49).drop (48 * 7)).take 48).all (fun pc => zckI (zow 49) 49 pc (zdc 49 pc) (zcode 49 pc)) = true := by decide +kernel
theorem zkd_49_7 : ∀ i, i < 8 → (((zpcs 49).drop (48 * i)).take 48).all (fun pc => zckI (zow 49) 49 pc (zdc 49 pc) (zcode 49 pc)) = true := lt_s zkd_49_6 zkc_49_7
set_option maxRecDepth 1000000 in
theorem zkc_49_8 : (((zpcs 49).drop (48 * 8)).take 48).all (fun pc => zckI (zow 49) 49 pc (zdc 49 pc) (zcode 49 pc)) = true := by decide +kernel
theorem zkd_49_8 : ∀ i, i < 9 → (((zpcs 49).drop (48 * i)).take 48).all (fun pc => zckI (zow 49) 49 pc (zdc 49 pc) (zcode 49 pc)) = true := lt_s zkd_49_7 zkc_49_8
set_option maxRecDepth 1000000 in
theorem zkc_49_9 : (((zpcs 49).drop (48 * 9)).take 48).all (fun pc => zckI (zow 49) 49 pc (zdc 49 pc) (zcode 49 pc)) = true := by decide +kernel
theorem zkd_49_9 : ∀ i, i < 10 → (((zpcs 49).drop (48 * i)).take 48).all (fun pc => zckI (zow 49) 49 pc (zdc 49 pc) (zcode 49 pc)) = true := lt_s zkd_49_8 zkc_49_9
set_option maxRecDepth 1000000 in
theorem zkc_49_10 : (((zpcs 49).drop (48 * 10)).take 48).all (fun pc => zckI (zow 49) 49 pc (zdc 49 pc) (zcode 49 pc)) = true := by decide +kernel
theorem zkd_49_10 : ∀ i, i < 11 → (((zpcs 49).drop (48 * i)).take 48).all (fun pc => zckI (zow 49) 49 pc (zdc 49 pc) (zcode 49 pc)) = true := lt_s zkd_49_9 zkc_49_10
set_option maxRecDepth 1000000 in
theorem zkc_49_11 : (((zpcs 49).drop (48 * 11)).take 48).all (fun pc => zckI (zow 49) 49 pc (zdc 49 pc) (zcode 49 pc)) = true := by decide +kernel
theorem zkd_49_11 : ∀ i, i < 12 → (((zpcs 49).drop (48 * i)).take 48).all (fun pc => zckI (zow 49) 49 pc (zdc 49 pc) (zcode 49 pc)) = true := lt_s zkd_49_10 zkc_49_11
set_option maxRecDepth 1000000 in
theorem zkc_49_12 : (((zpcs 49).drop (48 * 12)).take 48).all (fun pc => zckI (zow 49) 49 pc (zdc 49 pc) (zcode 49 pc)) = true := by decide +kernel
theorem zkd_49_12 : ∀ i, i < 13 → (((zpcs 49).drop (48 * i)).take 48).all (fun pc => zckI (zow 49) 49 pc (zdc 49 pc) (zcode 49 pc)) = true := lt_s zkd_49_11 zkc_49_12
set_option maxRecDepth 1000000 in
theorem zkc_49_13 : (((zpcs 49).drop (48 * 13)).take 48).all (fun pc => zckI (zow 49) 49 pc (zdc 49 pc) (zcode 49 pc)) = true := by decide +kernel
theorem zkd_49_13 : ∀ i, i < 14 → (((zpcs 49).drop (48 * i)).take 48).all (fun pc => zckI (zow 49) 49 pc (zdc 49 pc) (zcode 49 pc)) = true := lt_s zkd_49_12 zkc_49_13
set_option maxRecDepth 1000000 in
theorem zkc_49_14 : (((zpcs 49).drop (48 * 14)).take 48).all (fun pc => zckI (zow 49) 49 pc (zdc 49 pc) (zcode 49 pc)) = true := by decide +kernel
theorem zkd_49_14 : ∀ i, i < 15 → (((zpcs 49).drop (48 * i)).take 48).all (fun pc => zckI (zow 49) 49 pc (zdc 49 pc) (zcode 49 pc)) = true := lt_s zkd_49_13 zkc_49_14
set_option maxRecDepth 1000000 in
theorem zk_49 : Z_zck 49 = true := zck_of (zchunk (c := 48) (N := 15) (by decide) zkd_49_14 (by decide +kernel)) (by decide +kernel)
theorem zka_49 : ∀ a, a < 50 → Z_zck a = true := lt_s zka_48 zk_49
