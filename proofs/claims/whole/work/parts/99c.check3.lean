/-! THE CHECK of the tables, part 3. -/
set_option maxRecDepth 1000000 in
theorem zk_72 : zck 72 = true := by decide +kernel
theorem zka_72 : ∀ a, a < 73 → zck a = true := lt_s zka_71 zk_72
set_option maxRecDepth 1000000 in
theorem zk_73 : zck 73 = true := by decide +kernel
theorem zka_73 : ∀ a, a < 74 → zck a = true := lt_s zka_72 zk_73
set_option maxRecDepth 1000000 in
theorem zk_74 : zck 74 = true := by decide +kernel
theorem zka_74 : ∀ a, a < 75 → zck a = true := lt_s zka_73 zk_74
set_option maxRecDepth 1000000 in
theorem zk_75 : zck 75 = true := by decide +kernel
theorem zka_75 : ∀ a, a < 76 → zck a = true := lt_s zka_74 zk_75
set_option maxRecDepth 1000000 in
theorem zk_76 : zck 76 = true := by decide +kernel
theorem zka_76 : ∀ a, a < 77 → zck a = true := lt_s zka_75 zk_76
set_option maxRecDepth 1000000 in
theorem zk_77 : zck 77 = true := by decide +kernel
theorem zka_77 : ∀ a, a < 78 → zck a = true := lt_s zka_76 zk_77
set_option maxRecDepth 1000000 in
theorem zk_78 : zck 78 = true := by decide +kernel
theorem zka_78 : ∀ a, a < 79 → zck a = true := lt_s zka_77 zk_78
set_option maxRecDepth 1000000 in
theorem zk_79 : zck 79 = true := by decide +kernel
theorem zka_79 : ∀ a, a < 80 → zck a = true := lt_s zka_78 zk_79
set_option maxRecDepth 1000000 in
theorem zk_80 : zck 80 = true := by decide +kernel
theorem zka_80 : ∀ a, a < 81 → zck a = true := lt_s zka_79 zk_80
set_option maxRecDepth 1000000 in
theorem zk_81 : zck 81 = true := by decide +kernel
theorem zka_81 : ∀ a, a < 82 → zck a = true := lt_s zka_80 zk_81
set_option maxRecDepth 1000000 in
theorem zk_82 : zck 82 = true := by decide +kernel
theorem zka_82 : ∀ a, a < 83 → zck a = true := lt_s zka_81 zk_82
set_option maxRecDepth 1000000 in
theorem zk_83 : zck 83 = true := by decide +kernel
theorem zka_83 : ∀ a, a < 84 → zck a = true := lt_s zka_82 zk_83
set_option maxRecDepth 1000000 in
theorem zk_84 : zck 84 = true := by decide +kernel
theorem zka_84 : ∀ a, a < 85 → zck a = true := lt_s zka_83 zk_84
set_option maxRecDepth 1000000 in
theorem zk_85 : zck 85 = true := by decide +kernel
theorem zka_85 : ∀ a, a < 86 → zck a = true := lt_s zka_84 zk_85
set_option maxRecDepth 1000000 in
theorem zk_86 : zck 86 = true := by decide +kernel
theorem zka_86 : ∀ a, a < 87 → zck a = true := lt_s zka_85 zk_86
set_option maxRecDepth 1000000 in
theorem zk_87 : zck 87 = true := by decide +kernel
theorem zka_87 : ∀ a, a < 88 → zck a = true := lt_s zka_86 zk_87
set_option maxRecDepth 1000000 in
theorem zk_88 : zck 88 = true := by decide +kernel
theorem zka_88 : ∀ a, a < 89 → zck a = true := lt_s zka_87 zk_88
set_option maxRecDepth 1000000 in
theorem zk_89 : zck 89 = true := by decide +kernel
theorem zka_89 : ∀ a, a < 90 → zck a = true := lt_s zka_88 zk_89
set_option maxRecDepth 1000000 in
theorem zk_90 : zck 90 = true := by decide +kernel
theorem zka_90 : ∀ a, a < 91 → zck a = true := lt_s zka_89 zk_90
set_option maxRecDepth 1000000 in
theorem zk_91 : zck 91 = true := by decide +kernel
theorem zka_91 : ∀ a, a < 92 → zck a = true := lt_s zka_90 zk_91
set_option maxRecDepth 1000000 in
theorem zk_92 : zck 92 = true := by decide +kernel
theorem zka_92 : ∀ a, a < 93 → zck a = true := lt_s zka_91 zk_92
set_option maxRecDepth 1000000 in
theorem zk_93 : zck 93 = true := by decide +kernel
theorem zka_93 : ∀ a, a < 94 → zck a = true := lt_s zka_92 zk_93
set_option maxRecDepth 1000000 in
theorem zk_94 : zck 94 = true := by decide +kernel
theorem zka_94 : ∀ a, a < 95 → zck a = true := lt_s zka_93 zk_94
set_option maxRecDepth 1000000 in
theorem zk_95 : zck 95 = true := by decide +kernel
theorem zka_95 : ∀ a, a < 96 → zck a = true := lt_s zka_94 zk_95
set_option maxRecDepth 1000000 in
theorem zk_96 : zck 96 = true := by decide +kernel
theorem zka_96 : ∀ a, a < 97 → zck a = true := lt_s zka_95 zk_96
set_option maxRecDepth 1000000 in
theorem zk_97 : zck 97 = true := by decide +kernel
theorem zka_97 : ∀ a, a < 98 → zck a = true := lt_s zka_96 zk_97
set_option maxRecDepth 1000000 in
theorem zk_98 : zck 98 = true := by decide +kernel
theorem zka_98 : ∀ a, a < 99 → zck a = true := lt_s zka_97 zk_98
set_option maxRecDepth 1000000 in
theorem zk_99 : zck 99 = true := by decide +kernel
theorem zka_99 : ∀ a, a < 100 → zck a = true := lt_s zka_98 zk_99
set_option maxRecDepth 1000000 in
theorem zk_100 : zck 100 = true := by decide +kernel
theorem zka_100 : ∀ a, a < 101 → zck a = true := lt_s zka_99 zk_100
set_option maxRecDepth 1000000 in
theorem zk_101 : zck 101 = true := by decide +kernel
theorem zka_101 : ∀ a, a < 102 → zck a = true := lt_s zka_100 zk_101
set_option maxRecDepth 1000000 in
theorem zk_102 : zck 102 = true := by decide +kernel
theorem zka_102 : ∀ a, a < 103 → zck a = true := lt_s zka_101 zk_102
set_option maxRecDepth 1000000 in
theorem zk_103 : zck 103 = true := by decide +kernel
theorem zka_103 : ∀ a, a < 104 → zck a = true := lt_s zka_102 zk_103
set_option maxRecDepth 1000000 in
theorem zk_104 : zck 104 = true := by decide +kernel
theorem zka_104 : ∀ a, a < 105 → zck a = true := lt_s zka_103 zk_104
set_option maxRecDepth 1000000 in
theorem zk_105 : zck 105 = true := by decide +kernel
theorem zka_105 : ∀ a, a < 106 → zck a = true := lt_s zka_104 zk_105
