/-! THE CHECK of the tables, part 3. -/
set_option maxRecDepth 1000000 in
theorem zk_72 : Z_zck 72 = true := by decide +kernel
theorem zka_72 : ∀ a, a < 73 → Z_zck a = true := lt_s zka_71 zk_72
set_option maxRecDepth 1000000 in
theorem zk_73 : Z_zck 73 = true := by decide +kernel
theorem zka_73 : ∀ a, a < 74 → Z_zck a = true := lt_s zka_72 zk_73
set_option maxRecDepth 1000000 in
theorem zk_74 : Z_zck 74 = true := by decide +kernel
theorem zka_74 : ∀ a, a < 75 → Z_zck a = true := lt_s zka_73 zk_74
set_option maxRecDepth 1000000 in
theorem zk_75 : Z_zck 75 = true := by decide +kernel
theorem zka_75 : ∀ a, a < 76 → Z_zck a = true := lt_s zka_74 zk_75
set_option maxRecDepth 1000000 in
theorem zk_76 : Z_zck 76 = true := by decide +kernel
theorem zka_76 : ∀ a, a < 77 → Z_zck a = true := lt_s zka_75 zk_76
set_option maxRecDepth 1000000 in
theorem zk_77 : Z_zck 77 = true := by decide +kernel
theorem zka_77 : ∀ a, a < 78 → Z_zck a = true := lt_s zka_76 zk_77
set_option maxRecDepth 1000000 in
theorem zk_78 : Z_zck 78 = true := by decide +kernel
theorem zka_78 : ∀ a, a < 79 → Z_zck a = true := lt_s zka_77 zk_78
set_option maxRecDepth 1000000 in
theorem zk_79 : Z_zck 79 = true := by decide +kernel
theorem zka_79 : ∀ a, a < 80 → Z_zck a = true := lt_s zka_78 zk_79
set_option maxRecDepth 1000000 in
theorem zk_80 : Z_zck 80 = true := by decide +kernel
theorem zka_80 : ∀ a, a < 81 → Z_zck a = true := lt_s zka_79 zk_80
set_option maxRecDepth 1000000 in
theorem zk_81 : Z_zck 81 = true := by decide +kernel
theorem zka_81 : ∀ a, a < 82 → Z_zck a = true := lt_s zka_80 zk_81
set_option maxRecDepth 1000000 in
theorem zk_82 : Z_zck 82 = true := by decide +kernel
theorem zka_82 : ∀ a, a < 83 → Z_zck a = true := lt_s zka_81 zk_82
set_option maxRecDepth 1000000 in
theorem zk_83 : Z_zck 83 = true := by decide +kernel
theorem zka_83 : ∀ a, a < 84 → Z_zck a = true := lt_s zka_82 zk_83
set_option maxRecDepth 1000000 in
theorem zk_84 : Z_zck 84 = true := by decide +kernel
theorem zka_84 : ∀ a, a < 85 → Z_zck a = true := lt_s zka_83 zk_84
set_option maxRecDepth 1000000 in
theorem zk_85 : Z_zck 85 = true := by decide +kernel
theorem zka_85 : ∀ a, a < 86 → Z_zck a = true := lt_s zka_84 zk_85
set_option maxRecDepth 1000000 in
theorem zk_86 : Z_zck 86 = true := by decide +kernel
theorem zka_86 : ∀ a, a < 87 → Z_zck a = true := lt_s zka_85 zk_86
set_option maxRecDepth 1000000 in
theorem zk_87 : Z_zck 87 = true := by decide +kernel
theorem zka_87 : ∀ a, a < 88 → Z_zck a = true := lt_s zka_86 zk_87
set_option maxRecDepth 1000000 in
theorem zk_88 : Z_zck 88 = true := by decide +kernel
theorem zka_88 : ∀ a, a < 89 → Z_zck a = true := lt_s zka_87 zk_88
set_option maxRecDepth 1000000 in
theorem zk_89 : Z_zck 89 = true := by decide +kernel
theorem zka_89 : ∀ a, a < 90 → Z_zck a = true := lt_s zka_88 zk_89
set_option maxRecDepth 1000000 in
theorem zk_90 : Z_zck 90 = true := by decide +kernel
theorem zka_90 : ∀ a, a < 91 → Z_zck a = true := lt_s zka_89 zk_90
set_option maxRecDepth 1000000 in
theorem zk_91 : Z_zck 91 = true := by decide +kernel
theorem zka_91 : ∀ a, a < 92 → Z_zck a = true := lt_s zka_90 zk_91
set_option maxRecDepth 1000000 in
theorem zk_92 : Z_zck 92 = true := by decide +kernel
theorem zka_92 : ∀ a, a < 93 → Z_zck a = true := lt_s zka_91 zk_92
set_option maxRecDepth 1000000 in
theorem zk_93 : Z_zck 93 = true := by decide +kernel
theorem zka_93 : ∀ a, a < 94 → Z_zck a = true := lt_s zka_92 zk_93
set_option maxRecDepth 1000000 in
theorem zk_94 : Z_zck 94 = true := by decide +kernel
theorem zka_94 : ∀ a, a < 95 → Z_zck a = true := lt_s zka_93 zk_94
set_option maxRecDepth 1000000 in
theorem zk_95 : Z_zck 95 = true := by decide +kernel
theorem zka_95 : ∀ a, a < 96 → Z_zck a = true := lt_s zka_94 zk_95
set_option maxRecDepth 1000000 in
theorem zk_96 : Z_zck 96 = true := by decide +kernel
theorem zka_96 : ∀ a, a < 97 → Z_zck a = true := lt_s zka_95 zk_96
set_option maxRecDepth 1000000 in
theorem zk_97 : Z_zck 97 = true := by decide +kernel
theorem zka_97 : ∀ a, a < 98 → Z_zck a = true := lt_s zka_96 zk_97
set_option maxRecDepth 1000000 in
theorem zk_98 : Z_zck 98 = true := by decide +kernel
theorem zka_98 : ∀ a, a < 99 → Z_zck a = true := lt_s zka_97 zk_98
set_option maxRecDepth 1000000 in
theorem zk_99 : Z_zck 99 = true := by decide +kernel
theorem zka_99 : ∀ a, a < 100 → Z_zck a = true := lt_s zka_98 zk_99
set_option maxRecDepth 1000000 in
theorem zk_100 : Z_zck 100 = true := by decide +kernel
theorem zka_100 : ∀ a, a < 101 → Z_zck a = true := lt_s zka_99 zk_100
set_option maxRecDepth 1000000 in
theorem zk_101 : Z_zck 101 = true := by decide +kernel
theorem zka_101 : ∀ a, a < 102 → Z_zck a = true := lt_s zka_100 zk_101
set_option maxRecDepth 1000000 in
theorem zk_102 : Z_zck 102 = true := by decide +kernel
theorem zka_102 : ∀ a, a < 103 → Z_zck a = true := lt_s zka_101 zk_102
set_option maxRecDepth 1000000 in
theorem zk_103 : Z_zck 103 = true := by decide +kernel
theorem zka_103 : ∀ a, a < 104 → Z_zck a = true := lt_s zka_102 zk_103
set_option maxRecDepth 1000000 in
theorem zk_104 : Z_zck 104 = true := by decide +kernel
theorem zka_104 : ∀ a, a < 105 → Z_zck a = true := lt_s zka_103 zk_104
set_option maxRecDepth 1000000 in
theorem zk_105 : Z_zck 105 = true := by decide +kernel
theorem zka_105 : ∀ a, a < 106 → Z_zck a = true := lt_s zka_104 zk_105
