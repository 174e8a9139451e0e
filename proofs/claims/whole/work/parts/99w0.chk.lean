def lawX : MT := (RL, yL_law, cL_law, 7, some .boolean, 1, 1, [])
set_option maxRecDepth 100000 in
theorem zl_0 : ∀ i, i < 32 → zok lawX P349 (0 + i) = true := by decide +kernel
set_option maxRecDepth 100000 in
theorem zl_1 : ∀ i, i < 32 → zok lawX P349 (32 + i) = true := by decide +kernel
set_option maxRecDepth 100000 in
theorem zl_2 : ∀ i, i < 32 → zok lawX P349 (64 + i) = true := by decide +kernel
set_option maxRecDepth 100000 in
theorem zl_3 : ∀ i, i < 32 → zok lawX P349 (96 + i) = true := by decide +kernel
set_option maxRecDepth 100000 in
theorem zl_4 : ∀ i, i < 32 → zok lawX P349 (128 + i) = true := by decide +kernel
set_option maxRecDepth 100000 in
theorem zl_5 : ∀ i, i < 32 → zok lawX P349 (160 + i) = true := by decide +kernel
set_option maxRecDepth 100000 in
theorem zl_6 : ∀ i, i < 32 → zok lawX P349 (192 + i) = true := by decide +kernel
set_option maxRecDepth 100000 in
theorem zl_7 : ∀ i, i < 32 → zok lawX P349 (224 + i) = true := by decide +kernel
set_option maxRecDepth 100000 in
theorem zl_8 : ∀ i, i < 32 → zok lawX P349 (256 + i) = true := by decide +kernel
set_option maxRecDepth 100000 in
theorem zl_9 : ∀ i, i < 32 → zok lawX P349 (288 + i) = true := by decide +kernel
set_option maxRecDepth 100000 in
theorem zl_10 : ∀ i, i < 32 → zok lawX P349 (320 + i) = true := by decide +kernel
set_option maxRecDepth 100000 in
theorem zl_11 : ∀ i, i < 32 → zok lawX P349 (352 + i) = true := by decide +kernel
