set_option maxRecDepth 100000 in
theorem zl_24 : ∀ i, i < 32 → zok lawX P349 (768 + i) = true := by decide +kernel
set_option maxRecDepth 100000 in
theorem zl_25 : ∀ i, i < 32 → zok lawX P349 (800 + i) = true := by decide +kernel
set_option maxRecDepth 100000 in
theorem zl_26 : ∀ i, i < 32 → zok lawX P349 (832 + i) = true := by decide +kernel
set_option maxRecDepth 100000 in
theorem zl_27 : ∀ i, i < 32 → zok lawX P349 (864 + i) = true := by decide +kernel
set_option maxRecDepth 100000 in
theorem zl_28 : ∀ i, i < 32 → zok lawX P349 (896 + i) = true := by decide +kernel
set_option maxRecDepth 100000 in
theorem zl_29 : ∀ i, i < 32 → zok lawX P349 (928 + i) = true := by decide +kernel
set_option maxRecDepth 100000 in
theorem zl_30 : ∀ i, i < 32 → zok lawX P349 (960 + i) = true := by decide +kernel
set_option maxRecDepth 100000 in
theorem zl_31 : ∀ i, i < 32 → zok lawX P349 (992 + i) = true := by decide +kernel
set_option maxRecDepth 100000 in
theorem zl_32 : ∀ i, i < 32 → zok lawX P349 (1024 + i) = true := by decide +kernel
set_option maxRecDepth 100000 in
theorem zl_33 : ∀ i, i < 32 → zok lawX P349 (1056 + i) = true := by decide +kernel
