set_option maxRecDepth 100000 in
theorem zl_12 : ∀ i, i < 32 → zok lawX P349 (384 + i) = true := by decide +kernel
set_option maxRecDepth 100000 in
theorem zl_13 : ∀ i, i < 32 → zok lawX P349 (416 + i) = true := by decide +kernel
set_option maxRecDepth 100000 in
theorem zl_14 : ∀ i, i < 32 → zok lawX P349 (448 + i) = true := by decide +kernel
set_option maxRecDepth 100000 in
theorem zl_15 : ∀ i, i < 32 → zok lawX P349 (480 + i) = true := by decide +kernel
set_option maxRecDepth 100000 in
theorem zl_16 : ∀ i, i < 32 → zok lawX P349 (512 + i) = true := by decide +kernel
set_option maxRecDepth 100000 in
theorem zl_17 : ∀ i, i < 32 → zok lawX P349 (544 + i) = true := by decide +kernel
set_option maxRecDepth 100000 in
theorem zl_18 : ∀ i, i < 32 → zok lawX P349 (576 + i) = true := by decide +kernel
set_option maxRecDepth 100000 in
theorem zl_19 : ∀ i, i < 32 → zok lawX P349 (608 + i) = true := by decide +kernel
set_option maxRecDepth 100000 in
theorem zl_20 : ∀ i, i < 32 → zok lawX P349 (640 + i) = true := by decide +kernel
set_option maxRecDepth 100000 in
theorem zl_21 : ∀ i, i < 32 → zok lawX P349 (672 + i) = true := by decide +kernel
set_option maxRecDepth 100000 in
theorem zl_22 : ∀ i, i < 32 → zok lawX P349 (704 + i) = true := by decide +kernel
set_option maxRecDepth 100000 in
theorem zl_23 : ∀ i, i < 32 → zok lawX P349 (736 + i) = true := by decide +kernel
