/-! THE CHECK of the tables, part 4. -/
set_option maxRecDepth 1000000 in
theorem zk_106 : Z_zck 106 = true := by decide +kernel
theorem zka_106 : ∀ a, a < 107 → Z_zck a = true := lt_s zka_105 zk_106
set_option maxRecDepth 1000000 in
theorem zk_107 : Z_zck 107 = true := by decide +kernel
theorem zka_107 : ∀ a, a < 108 → Z_zck a = true := lt_s zka_106 zk_107
set_option maxRecDepth 1000000 in
theorem zk_108 : Z_zck 108 = true := by decide +kernel
theorem zka_108 : ∀ a, a < 109 → Z_zck a = true := lt_s zka_107 zk_108
set_option maxRecDepth 1000000 in
theorem zk_109 : Z_zck 109 = true := by decide +kernel
theorem zka_109 : ∀ a, a < 110 → Z_zck a = true := lt_s zka_108 zk_109
set_option maxRecDepth 1000000 in
theorem zk_110 : Z_zck 110 = true := by decide +kernel
theorem zka_110 : ∀ a, a < 111 → Z_zck a = true := lt_s zka_109 zk_110
set_option maxRecDepth 1000000 in
theorem zk_111 : Z_zck 111 = true := by decide +kernel
theorem zka_111 : ∀ a, a < 112 → Z_zck a = true := lt_s zka_110 zk_111
set_option maxRecDepth 1000000 in
theorem zk_112 : Z_zck 112 = true := by decide +kernel
theorem zka_112 : ∀ a, a < 113 → Z_zck a = true := lt_s zka_111 zk_112
set_option maxRecDepth 1000000 in
theorem zkc_113_0 : (((zpcs 113).drop (48 * 0)).take 48).all (fun pc => zckI (zow 113) 113 pc (zdc 113 pc) (zcode 113 pc)) = true := by decide +kernel
theorem zkd_113_0 : ∀ i, i < 1 → (((zpcs 113).drop (48 * i)).take 48).all (fun pc => zckI (zow 113) 113 pc (zdc 113 pc) (zcode 113 pc)) = true := lt_s lt_0 zkc_113_0
set_option maxRecDepth 1000000 in
theorem zkc_113_1 : (((zpcs 113).drop (48 * 1)).take 48).all (fun pc => zckI (zow 113) 113 pc (zdc 113 pc) (zcode 113 pc)) = true := by decide +kernel
theorem zkd_113_1 : ∀ i, i < 2 → (((zpcs 113).drop (48 * i)).take 48).all (fun pc => zckI (zow 113) 113 pc (zdc 113 pc) (zcode 113 pc)) = true := lt_s zkd_113_0 zkc_113_1
set_option maxRecDepth 1000000 in
theorem zkc_113_2 : (((zpcs 113).drop (48 * 2)).take 48).all (fun pc => zckI (zow 113) 113 pc (zdc 113 pc) (zcode 113 pc)) = true := by decide +kernel
theorem zkd_113_2 : ∀ i, i < 3 → (((zpcs 113).drop (48 * i)).take 48).all (fun pc => zckI (zow 113) 113 pc (zdc 113 pc) (zcode 113 pc)) = true := lt_s zkd_113_1 zkc_113_2
set_option maxRecDepth 1000000 in
theorem zkc_113_3 : (((zpcs 113).drop (48 * 3)).take 48).all (fun pc => zckI (zow 113) 113 pc (zdc 113 pc) (zcode 113 pc)) = true := by decide +kernel
theorem zkd_113_3 : ∀ i, i < 4 → (((zpcs 113).drop (48 * i)).take 48).all (fun pc => zckI (zow 113) 113 pc (zdc 113 pc) (zcode 113 pc)) = true := lt_s zkd_113_2 zkc_113_3
set_option maxRecDepth 1000000 in
theorem zkc_113_4 : (((zpcs 113).drop (48 * 4)).take 48).all (fun pc => zckI (zow 113) 113 pc (zdc 113 pc) (zcode 113 pc)) = true := by decide +kernel
theorem zkd_113_4 : ∀ i, i < 5 → (((zpcs 113).drop (48 * i)).take 48).all (fun pc => zckI (zow 113) 113 pc (zdc 113 pc) (zcode 113 pc)) = true := lt_s zkd_113_3 zkc_113_4
set_option maxRecDepth 1000000 in
theorem zkc_113_5 : (((zpcs 113).drop (48 * 5)).take 48).all (fun pc => zckI (zow 113) 113 pc (zdc 113 pc) (zcode 113 pc)) = true := by decide +kernel
theorem zkd_113_5 : ∀ i, i < 6 → (((zpcs 113).drop (48 * i)).take 48).all (fun pc => zckI (zow 113) 113 pc (zdc 113 pc) (zcode 113 pc)) = true := lt_s zkd_113_4 zkc_113_5
set_option maxRecDepth 1000000 in
theorem zkc_113_6 : (((zpcs 113).drop (48 * 6)).take 48).all (fun pc => zckI (zow 113) 113 pc (zdc 113 pc) (zcode 113 pc)) = true := by decide +kernel
theorem zkd_113_6 : ∀ i, i < 7 → (((zpcs 113).drop (48 * i)).take 48).all (fun pc => zckI (zow 113) 113 pc (zdc 113 pc) (zcode 113 pc)) = true := lt_s zkd_113_5 zkc_113_6
set_option maxRecDepth 1000000 in
theorem zk_113 : Z_zck 113 = true := zck_of (zchunk (c := 48) (N := 7) (by decide) zkd_113_6 (by decide +kernel)) (by decide +kernel)
theorem zka_113 : ∀ a, a < 114 → Z_zck a = true := lt_s zka_112 zk_113
set_option maxRecDepth 1000000 in
theorem zk_114 : Z_zck 114 = true := by decide +kernel
theorem zka_114 : ∀ a, a < 115 → Z_zck a = true := lt_s zka_113 zk_114
set_option maxRecDepth 1000000 in
theorem zk_115 : Z_zck 115 = true := by decide +kernel
theorem zka_115 : ∀ a, a < 116 → Z_zck a = true := lt_s zka_114 zk_115
set_option maxRecDepth 1000000 in
theorem zk_116 : Z_zck 116 = true := by decide +kernel
theorem zka_116 : ∀ a, a < 117 → Z_zck a = true := lt_s zka_115 zk_116
set_option maxRecDepth 1000000 in
theorem zk_117 : Z_zck 117 = true := by decide +kernel
theorem zka_117 : ∀ a, a < 118 → Z_zck a = true := lt_s zka_116 zk_117
set_option maxRecDepth 1000000 in
theorem zk_118 : Z_zck 118 = true := by decide +kernel
theorem zka_118 : ∀ a, a < 119 → Z_zck a = true := lt_s zka_117 zk_118
set_option maxRecDepth 1000000 in
theorem zk_119 : Z_zck 119 = true := by decide +kernel
theorem zka_119 : ∀ a, a < 120 → Z_zck a = true := lt_s zka_118 zk_119
set_option maxRecDepth 1000000 in
theorem zk_120 : Z_zck 120 = true := by decide +kernel
theorem zka_120 : ∀ a, a < 121 → Z_zck a = true := lt_s zka_119 zk_120
set_option maxRecDepth 1000000 in
theorem zk_121 : Z_zck 121 = true := by decide +kernel
theorem zka_121 : ∀ a, a < 122 → Z_zck a = true := lt_s zka_120 zk_121
set_option maxRecDepth 1000000 in
theorem zk_122 : Z_zck 122 = true := by decide +kernel
theorem zka_122 : ∀ a, a < 123 → Z_zck a = true := lt_s zka_121 zk_122
set_option maxRecDepth 1000000 in
theorem zk_123 : Z_zck 123 = true := by decide +kernel
theorem zka_123 : ∀ a, a < 124 → Z_zck a = true := lt_s zka_122 zk_123
set_option maxRecDepth 1000000 in
theorem zk_124 : Z_zck 124 = true := by decide +kernel
theorem zka_124 : ∀ a, a < 125 → Z_zck a = true := lt_s zka_123 zk_124
set_option maxRecDepth 1000000 in
theorem zk_125 : Z_zck 125 = true := by decide +kernel
theorem zka_125 : ∀ a, a < 126 → Z_zck a = true := lt_s zka_124 zk_125
set_option maxRecDepth 1000000 in
theorem zkc_126_0 : (((zpcs 126).drop (48 * 0)).take 48).all (fun pc => zckI (zow 126) 126 pc (zdc 126 pc) (zcode 126 pc)) = true := by decide +kernel
theorem zkd_126_0 : ∀ i, i < 1 → (((zpcs 126).drop (48 * i)).take 48).all (fun pc => zckI (zow 126) 126 pc (zdc 126 pc) (zcode 126 pc)) = true := lt_s lt_0 zkc_126_0
set_option maxRecDepth 1000000 in
theorem zkc_126_1 : (((zpcs 126).drop (48 * 1)).take 48).all (fun pc => zckI (zow 126) 126 pc (zdc 126 pc) (zcode 126 pc)) = true := by decide +kernel
theorem zkd_126_1 : ∀ i, i < 2 → (((zpcs 126).drop (48 * i)).take 48).all (fun pc => zckI (zow 126) 126 pc (zdc 126 pc) (zcode 126 pc)) = true := lt_s zkd_126_0 zkc_126_1
set_option maxRecDepth 1000000 in
theorem zkc_126_2 : (((zpcs 126).drop (48 * 2)).take 48).all (fun pc => zckI (zow 126) 126 pc (zdc 126 pc) (zcode 126 pc)) = true := by decide +kernel
theorem zkd_126_2 : ∀ i, i < 3 → (((zpcs 126).drop (48 * i)).take 48).all (fun pc => zckI (zow 126) 126 pc (zdc 126 pc) (zcode 126 pc)) = true := lt_s zkd_126_1 zkc_126_2
set_option maxRecDepth 1000000 in
theorem zkc_126_3 : (((zpcs 126).drop (48 * 3)).take 48).all (fun pc => zckI (zow 126) 126 pc (zdc 126 pc) (zcode 126 pc)) = true := by decide +kernel
theorem zkd_126_3 : ∀ i, i < 4 → (((zpcs 126).drop (48 * i)).take 48).all (fun pc => zckI (zow 126) 126 pc (zdc 126 pc) (zcode 126 pc)) = true := lt_s zkd_126_2 zkc_126_3
set_option maxRecDepth 1000000 in
theorem zkc_126_4 : (((zpcs 126).drop (48 * 4)).take 48).all (fun pc => zckI (zow 126) 126 pc (zdc 126 pc) (zcode 126 pc)) = true := by decide +kernel
theorem zkd_126_4 : ∀ i, i < 5 → (((zpcs 126).drop (48 * i)).take 48).all (fun pc => zckI (zow 126) 126 pc (zdc 126 pc) (zcode 126 pc)) = true := lt_s zkd_126_3 zkc_126_4
set_option maxRecDepth 1000000 in
theorem zkc_126_5 : (((zpcs 126).drop (48 * 5)).take 48).all (fun pc => zckI (zow 126) 126 pc (zdc 126 pc) (zcode 126 pc)) = true := by decide +kernel
theorem zkd_126_5 : ∀ i, i < 6 → (((zpcs 126).drop (48 * i)).take 48).all (fun pc => zckI (zow 126) 126 pc (zdc 126 pc) (zcode 126 pc)) = true := lt_s zkd_126_4 zkc_126_5
set_option maxRecDepth 1000000 in
theorem zkc_126_6 : (((zpcs 126).drop (48 * 6)).take 48).all (fun pc => zckI (zow 126) 126 pc (zdc 126 pc) (zcode 126 pc)) = true := by decide +kernel
theorem zkd_126_6 : ∀ i, i < 7 → (((zpcs 126).drop (48 * i)).take 48).all (fun pc => zckI (zow 126) 126 pc (zdc 126 pc) (zcode 126 pc)) = true := lt_s zkd_126_5 zkc_126_6
set_option maxRecDepth 1000000 in
theorem zk_126 : Z_zck 126 = true := zck_of (zchunk (c := 48) (N := 7) (by decide) zkd_126_6 (by decide +kernel)) (by decide +kernel)
theorem zka_126 : ∀ a, a < 127 → Z_zck a = true := lt_s zka_125 zk_126
