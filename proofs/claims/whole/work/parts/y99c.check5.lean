/-! THE CHECK of the tables, part 5. -/
set_option maxRecDepth 1000000 in
theorem zk_127 : Z_zck 127 = true := by decide +kernel
theorem zka_127 : ∀ a, a < 128 → Z_zck a = true := lt_s zka_126 zk_127
set_option maxRecDepth 1000000 in
theorem zk_128 : Z_zck 128 = true := by decide +kernel
theorem zka_128 : ∀ a, a < 129 → Z_zck a = true := lt_s zka_127 zk_128
set_option maxRecDepth 1000000 in
theorem zk_129 : Z_zck 129 = true := by decide +kernel
theorem zka_129 : ∀ a, a < 130 → Z_zck a = true := lt_s zka_128 zk_129
set_option maxRecDepth 1000000 in
theorem zk_130 : Z_zck 130 = true := by decide +kernel
theorem zka_130 : ∀ a, a < 131 → Z_zck a = true := lt_s zka_129 zk_130
set_option maxRecDepth 1000000 in
theorem zk_131 : Z_zck 131 = true := by decide +kernel
theorem zka_131 : ∀ a, a < 132 → Z_zck a = true := lt_s zka_130 zk_131
set_option maxRecDepth 1000000 in
theorem zk_132 : Z_zck 132 = true := by decide +kernel
theorem zka_132 : ∀ a, a < 133 → Z_zck a = true := lt_s zka_131 zk_132
set_option maxRecDepth 1000000 in
theorem zk_133 : Z_zck 133 = true := by decide +kernel
theorem zka_133 : ∀ a, a < 134 → Z_zck a = true := lt_s zka_132 zk_133
set_option maxRecDepth 1000000 in
theorem zk_134 : Z_zck 134 = true := by decide +kernel
theorem zka_134 : ∀ a, a < 135 → Z_zck a = true := lt_s zka_133 zk_134
set_option maxRecDepth 1000000 in
theorem zk_135 : Z_zck 135 = true := by decide +kernel
theorem zka_135 : ∀ a, a < 136 → Z_zck a = true := lt_s zka_134 zk_135
set_option maxRecDepth 1000000 in
theorem zk_136 : Z_zck 136 = true := by decide +kernel
theorem zka_136 : ∀ a, a < 137 → Z_zck a = true := lt_s zka_135 zk_136
set_option maxRecDepth 1000000 in
theorem zk_137 : Z_zck 137 = true := by decide +kernel
theorem zka_137 : ∀ a, a < 138 → Z_zck a = true := lt_s zka_136 zk_137
set_option maxRecDepth 1000000 in
theorem zk_138 : Z_zck 138 = true := by decide +kernel
theorem zka_138 : ∀ a, a < 139 → Z_zck a = true := lt_s zka_137 zk_138
set_option maxRecDepth 1000000 in
theorem zk_139 : Z_zck 139 = true := by decide +kernel
theorem zka_139 : ∀ a, a < 140 → Z_zck a = true := lt_s zka_138 zk_139
set_option maxRecDepth 1000000 in
theorem zk_140 : Z_zck 140 = true := by decide +kernel
theorem zka_140 : ∀ a, a < 141 → Z_zck a = true := lt_s zka_139 zk_140
set_option maxRecDepth 1000000 in
theorem zk_141 : Z_zck 141 = true := by decide +kernel
theorem zka_141 : ∀ a, a < 142 → Z_zck a = true := lt_s zka_140 zk_141
set_option maxRecDepth 1000000 in
theorem zk_142 : Z_zck 142 = true := by decide +kernel
theorem zka_142 : ∀ a, a < 143 → Z_zck a = true := lt_s zka_141 zk_142
set_option maxRecDepth 1000000 in
theorem zk_143 : Z_zck 143 = true := by decide +kernel
theorem zka_143 : ∀ a, a < 144 → Z_zck a = true := lt_s zka_142 zk_143
set_option maxRecDepth 1000000 in
theorem zk_144 : Z_zck 144 = true := by decide +kernel
theorem zka_144 : ∀ a, a < 145 → Z_zck a = true := lt_s zka_143 zk_144
set_option maxRecDepth 1000000 in
theorem zk_145 : Z_zck 145 = true := by decide +kernel
theorem zka_145 : ∀ a, a < 146 → Z_zck a = true := lt_s zka_144 zk_145
set_option maxRecDepth 1000000 in
theorem zk_146 : Z_zck 146 = true := by decide +kernel
theorem zka_146 : ∀ a, a < 147 → Z_zck a = true := lt_s zka_145 zk_146
set_option maxRecDepth 1000000 in
theorem zk_147 : Z_zck 147 = true := by decide +kernel
theorem zka_147 : ∀ a, a < 148 → Z_zck a = true := lt_s zka_146 zk_147
set_option maxRecDepth 1000000 in
theorem zk_148 : Z_zck 148 = true := by decide +kernel
theorem zka_148 : ∀ a, a < 149 → Z_zck a = true := lt_s zka_147 zk_148
set_option maxRecDepth 1000000 in
theorem zk_149 : Z_zck 149 = true := by decide +kernel
theorem zka_149 : ∀ a, a < 150 → Z_zck a = true := lt_s zka_148 zk_149
set_option maxRecDepth 1000000 in
theorem zk_150 : Z_zck 150 = true := by decide +kernel
theorem zka_150 : ∀ a, a < 151 → Z_zck a = true := lt_s zka_149 zk_150
