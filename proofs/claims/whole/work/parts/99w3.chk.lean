theorem zlw_at {i : Nat} (h : i < 1088) : zok lawX P349 i = true := by
  rcases Nat.lt_or_ge i 32 with g | g
  · have w := zl_0 (i - 0) (by omega)
    rw [show 0 + (i - 0) = i by omega] at w
    exact w
  rcases Nat.lt_or_ge i 64 with g | g
  · have w := zl_1 (i - 32) (by omega)
    rw [show 32 + (i - 32) = i by omega] at w
    exact w
  rcases Nat.lt_or_ge i 96 with g | g
  · have w := zl_2 (i - 64) (by omega)
    rw [show 64 + (i - 64) = i by omega] at w
    exact w
  rcases Nat.lt_or_ge i 128 with g | g
  · have w := zl_3 (i - 96) (by omega)
    rw [show 96 + (i - 96) = i by omega] at w
    exact w
  rcases Nat.lt_or_ge i 160 with g | g
  · have w := zl_4 (i - 128) (by omega)
    rw [show 128 + (i - 128) = i by omega] at w
    exact w
  rcases Nat.lt_or_ge i 192 with g | g
  · have w := zl_5 (i - 160) (by omega)
    rw [show 160 + (i - 160) = i by omega] at w
    exact w
  rcases Nat.lt_or_ge i 224 with g | g
  · have w := zl_6 (i - 192) (by omega)
    rw [show 192 + (i - 192) = i by omega] at w
    exact w
  rcases Nat.lt_or_ge i 256 with g | g
  · have w := zl_7 (i - 224) (by omega)
    rw [show 224 + (i - 224) = i by omega] at w
    exact w
  rcases Nat.lt_or_ge i 288 with g | g
  · have w := zl_8 (i - 256) (by omega)
    rw [show 256 + (i - 256) = i by omega] at w
    exact w
  rcases Nat.lt_or_ge i 320 with g | g
  · have w := zl_9 (i - 288) (by omega)
    rw [show 288 + (i - 288) = i by omega] at w
    exact w
  rcases Nat.lt_or_ge i 352 with g | g
  · have w := zl_10 (i - 320) (by omega)
    rw [show 320 + (i - 320) = i by omega] at w
    exact w
  rcases Nat.lt_or_ge i 384 with g | g
  · have w := zl_11 (i - 352) (by omega)
    rw [show 352 + (i - 352) = i by omega] at w
    exact w
  rcases Nat.lt_or_ge i 416 with g | g
  · have w := zl_12 (i - 384) (by omega)
    rw [show 384 + (i - 384) = i by omega] at w
    exact w
  rcases Nat.lt_or_ge i 448 with g | g
  · have w := zl_13 (i - 416) (by omega)
    rw [show 416 + (i - 416) = i by omega] at w
    exact w
  rcases Nat.lt_or_ge i 480 with g | g
  · have w := zl_14 (i - 448) (by omega)
    rw [show 448 + (i - 448) = i by omega] at w
    exact w
  rcases Nat.lt_or_ge i 512 with g | g
  · have w := zl_15 (i - 480) (by omega)
    rw [show 480 + (i - 480) = i by omega] at w
    exact w
  rcases Nat.lt_or_ge i 544 with g | g
  · have w := zl_16 (i - 512) (by omega)
    rw [show 512 + (i - 512) = i by omega] at w
    exact w
  rcases Nat.lt_or_ge i 576 with g | g
  · have w := zl_17 (i - 544) (by omega)
    rw [show 544 + (i - 544) = i by omega] at w
    exact w
  rcases Nat.lt_or_ge i 608 with g | g
  · have w := zl_18 (i - 576) (by omega)
    rw [show 576 + (i - 576) = i by omega] at w
    exact w
  rcases Nat.lt_or_ge i 640 with g | g
  · have w := zl_19 (i - 608) (by omega)
    rw [show 608 + (i - 608) = i by omega] at w
    exact w
  rcases Nat.lt_or_ge i 672 with g | g
  · have w := zl_20 (i - 640) (by omega)
    rw [show 640 + (i - 640) = i by omega] at w
    exact w
  rcases Nat.lt_or_ge i 704 with g | g
  · have w := zl_21 (i - 672) (by omega)
    rw [show 672 + (i - 672) = i by omega] at w
    exact w
  rcases Nat.lt_or_ge i 736 with g | g
  · have w := zl_22 (i - 704) (by omega)
    rw [show 704 + (i - 704) = i by omega] at w
    exact w
  rcases Nat.lt_or_ge i 768 with g | g
  · have w := zl_23 (i - 736) (by omega)
    rw [show 736 + (i - 736) = i by omega] at w
    exact w
  rcases Nat.lt_or_ge i 800 with g | g
  · have w := zl_24 (i - 768) (by omega)
    rw [show 768 + (i - 768) = i by omega] at w
    exact w
  rcases Nat.lt_or_ge i 832 with g | g
  · have w := zl_25 (i - 800) (by omega)
    rw [show 800 + (i - 800) = i by omega] at w
    exact w
  rcases Nat.lt_or_ge i 864 with g | g
  · have w := zl_26 (i - 832) (by omega)
    rw [show 832 + (i - 832) = i by omega] at w
    exact w
  rcases Nat.lt_or_ge i 896 with g | g
  · have w := zl_27 (i - 864) (by omega)
    rw [show 864 + (i - 864) = i by omega] at w
    exact w
  rcases Nat.lt_or_ge i 928 with g | g
  · have w := zl_28 (i - 896) (by omega)
    rw [show 896 + (i - 896) = i by omega] at w
    exact w
  rcases Nat.lt_or_ge i 960 with g | g
  · have w := zl_29 (i - 928) (by omega)
    rw [show 928 + (i - 928) = i by omega] at w
    exact w
  rcases Nat.lt_or_ge i 992 with g | g
  · have w := zl_30 (i - 960) (by omega)
    rw [show 960 + (i - 960) = i by omega] at w
    exact w
  rcases Nat.lt_or_ge i 1024 with g | g
  · have w := zl_31 (i - 992) (by omega)
    rw [show 992 + (i - 992) = i by omega] at w
    exact w
  rcases Nat.lt_or_ge i 1056 with g | g
  · have w := zl_32 (i - 1024) (by omega)
    rw [show 1024 + (i - 1024) = i by omega] at w
    exact w
  rcases Nat.lt_or_ge i 1088 with g | g
  · have w := zl_33 (i - 1056) (by omega)
    rw [show 1056 + (i - 1056) = i by omega] at w
    exact w
  omega
theorem zlaw : zall lawX P349 (P349.length * 32) = true := by
  have e : P349.length * 32 = 1088 := by decide +kernel
  rw [e]
  exact List.all_eq_true.mpr (fun i hi => zlw_at (List.mem_range.mp hi))
