/-! THE CHECK of the tables, part 2. -/
set_option maxRecDepth 1000000 in
theorem zk_50 : Z_zck 50 = true := by decide +kernel
theorem zka_50 : ∀ a, a < 51 → Z_zck a = true := lt_s zka_49 zk_50
set_option maxRecDepth 1000000 in
theorem zk_51 : Z_zck 51 = true := by decide +kernel
theorem zka_51 : ∀ a, a < 52 → Z_zck a = true := lt_s zka_50 zk_51
set_option maxRecDepth 1000000 in
theorem zk_52 : Z_zck 52 = true := by decide +kernel
theorem zka_52 : ∀ a, a < 53 → Z_zck a = true := lt_s zka_51 zk_52
set_option maxRecDepth 1000000 in
theorem zk_53 : Z_zck 53 = true := by decide +kernel
theorem zka_53 : ∀ a, a < 54 → Z_zck a = true := lt_s zka_52 zk_53
set_option maxRecDepth 1000000 in
theorem zk_54 : Z_zck 54 = true := by decide +kernel
theorem zka_54 : ∀ a, a < 55 → Z_zck a = true := lt_s zka_53 zk_54
set_option maxRecDepth 1000000 in
theorem zk_55 : Z_zck 55 = true := by decide +kernel
theorem zka_55 : ∀ a, a < 56 → Z_zck a = true := lt_s zka_54 zk_55
set_option maxRecDepth 1000000 in
theorem zk_56 : Z_zck 56 = true := by decide +kernel
theorem zka_56 : ∀ a, a < 57 → Z_zck a = true := lt_s zka_55 zk_56
set_option maxRecDepth 1000000 in
theorem zk_57 : Z_zck 57 = true := by decide +kernel
theorem zka_57 : ∀ a, a < 58 → Z_zck a = true := lt_s zka_56 zk_57
set_option maxRecDepth 1000000 in
theorem zk_58 : Z_zck 58 = true := by decide +kernel
theorem zka_58 : ∀ a, a < 59 → Z_zck a = true := lt_s zka_57 zk_58
set_option maxRecDepth 1000000 in
theorem zk_59 : Z_zck 59 = true := by decide +kernel
theorem zka_59 : ∀ a, a < 60 → Z_zck a = true := lt_s zka_58 zk_59
set_option maxRecDepth 1000000 in
theorem zk_60 : Z_zck 60 = true := by decide +kernel
theorem zka_60 : ∀ a, a < 61 → Z_zck a = true := lt_s zka_59 zk_60
set_option maxRecDepth 1000000 in
theorem zk_61 : Z_zck 61 = true := by decide +kernel
theorem zka_61 : ∀ a, a < 62 → Z_zck a = true := lt_s zka_60 zk_61
set_option maxRecDepth 1000000 in
theorem zk_62 : Z_zck 62 = true := by decide +kernel
theorem zka_62 : ∀ a, a < 63 → Z_zck a = true := lt_s zka_61 zk_62
set_option maxRecDepth 1000000 in
theorem zk_63 : Z_zck 63 = true := by decide +kernel
theorem zka_63 : ∀ a, a < 64 → Z_zck a = true := lt_s zka_62 zk_63
set_option maxRecDepth 1000000 in
theorem zk_64 : Z_zck 64 = true := by decide +kernel
theorem zka_64 : ∀ a, a < 65 → Z_zck a = true := lt_s zka_63 zk_64
set_option maxRecDepth 1000000 in
theorem zk_65 : Z_zck 65 = true := by decide +kernel
theorem zka_65 : ∀ a, a < 66 → Z_zck a = true := lt_s zka_64 zk_65
set_option maxRecDepth 1000000 in
theorem zk_66 : Z_zck 66 = true := by decide +kernel
theorem zka_66 : ∀ a, a < 67 → Z_zck a = true := lt_s zka_65 zk_66
set_option maxRecDepth 1000000 in
theorem zk_67 : Z_zck 67 = true := by decide +kernel
theorem zka_67 : ∀ a, a < 68 → Z_zck a = true := lt_s zka_66 zk_67
set_option maxRecDepth 1000000 in
theorem zkc_68_0 : (((zpcs 68).drop (48 * 0)).take 48).all (fun pc => zckI (zow 68) 68 pc (zdc 68 pc) (zcode 68 pc)) = true := by decide +kernel
theorem zkd_68_0 : ∀ i, i < 1 → (((zpcs 68).drop (48 * i)).take 48).all (fun pc => zckI (zow 68) 68 pc (zdc 68 pc) (zcode 68 pc)) = true := lt_s lt_0 zkc_68_0
set_option maxRecDepth 1000000 in
theorem zkc_68_1 : (((zpcs 68).drop (48 * 1)).take 48).all (fun pc => zckI (zow 68) 68 pc (zdc 68 pc) (zcode 68 pc)) = true := by decide +kernel
theorem zkd_68_1 : ∀ i, i < 2 → (((zpcs 68).drop (48 * i)).take 48).all (fun pc => zckI (zow 68) 68 pc (zdc 68 pc) (zcode 68 pc)) = true := lt_s zkd_68_0 zkc_68_1
set_option maxRecDepth 1000000 in
theorem zkc_68_2 : (((zpcs 68).drop (48 * 2)).take 48).all (fun pc => zckI (zow 68) 68 pc (zdc 68 pc) (zcode 68 pc)) = true := by decide +kernel
theorem zkd_68_2 : ∀ i, i < 3 → (((zpcs 68).drop (48 * i)).take 48).all (fun pc => zckI (zow 68) 68 pc (zdc 68 pc) (zcode 68 pc)) = true := lt_s zkd_68_1 zkc_68_2
set_option maxRecDepth 1000000 in
theorem zkc_68_3 : (((zpcs 68).drop (48 * 3)).take 48).all (fun pc => zckI (zow 68) 68 pc (zdc 68 pc) (zcode 68 pc)) = true := by decide +kernel
theorem zkd_68_3 : ∀ i, i < 4 → (((zpcs 68).drop (48 * i)).take 48).all (fun pc => zckI (zow 68) 68 pc (zdc 68 pc) (zcode 68 pc)) = true := lt_s zkd_68_2 zkc_68_3
set_option maxRecDepth 1000000 in
theorem zkc_68_4 : (((zpcs 68).drop (48 * 4)).take 48).all (fun pc => zckI (zow 68) 68 pc (zdc 68 pc) (zcode 68 pc)) = true := by decide +kernel
theorem zkd_68_4 : ∀ i, i < 5 → (((zpcs 68).drop (48 * i)).take 48).all (fun pc => zckI (zow 68) 68 pc (zdc 68 pc) (zcode 68 pc)) = true := lt_s zkd_68_3 zkc_68_4
set_option maxRecDepth 1000000 in
theorem zk_68 : Z_zck 68 = true := zck_of (zchunk (c := 48) (N := 5) (by decide) zkd_68_4 (by decide +kernel)) (by decide +kernel)
theorem zka_68 : ∀ a, a < 69 → Z_zck a = true := lt_s zka_67 zk_68
set_option maxRecDepth 1000000 in
theorem zk_69 : Z_zck 69 = true := by decide +kernel
theorem zka_69 : ∀ a, a < 70 → Z_zck a = true := lt_s zka_68 zk_69
set_option maxRecDepth 1000000 in
theorem zk_70 : Z_zck 70 = true := by decide +kernel
theorem zka_70 : ∀ a, a < 71 → Z_zck a = true := lt_s zka_69 zk_70
set_option maxRecDepth 1000000 in
theorem zk_71 : Z_zck 71 = true := by decide +kernel
theorem zka_71 : ∀ a, a < 72 → Z_zck a = true := lt_s zka_70 zk_71
