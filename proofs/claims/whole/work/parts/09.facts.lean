theorem ff_11_3 : FF 11 3 RX11 TX11 16 2 := ⟨iw_11, rfl, by decide, by decide, rfl, by decide⟩
theorem ff_11_9 : FF 11 9 RX11 TX11 16 2 := ⟨iw_11, rfl, by decide, by decide, rfl, by decide⟩
theorem ff_11_10 : FF 11 10 RX11 TX11 16 2 := ⟨iw_11, rfl, by decide, by decide, rfl, by decide⟩
theorem ff_11_11 : FF 11 11 RX11 TX11 16 2 := ⟨iw_11, rfl, by decide, by decide, rfl, by decide⟩
theorem ff_11_12 : FF 11 12 RX11 TX11 16 2 := ⟨iw_11, rfl, by decide, by decide, rfl, by decide⟩
theorem ff_11_13 : FF 11 13 RX11 TX11 16 2 := ⟨iw_11, rfl, by decide, by decide, rfl, by decide⟩
theorem ff_11_14 : FF 11 14 RX11 TX11 16 2 := ⟨iw_11, rfl, by decide, by decide, rfl, by decide⟩
theorem ff_11_15 : FF 11 15 RX11 TX11 16 2 := ⟨iw_11, rfl, by decide, by decide, rfl, by decide⟩
theorem rk_11_3 (i : Nat) (h : (kd i).1 = 11) : kd (rt i 3) = (8, 0) := by
  have hh : ∀ i, i < NC → (kd i).1 = 11 → kd (rt i 3) = (8, 0) := by decide +kernel
  exact hh i (kd_lt h (by decide)) h
theorem rk_11_9 (i : Nat) (h : (kd i).1 = 11) : kd (rt i 9) = (5, 0) := by
  have hh : ∀ i, i < NC → (kd i).1 = 11 → kd (rt i 9) = (5, 0) := by decide +kernel
  exact hh i (kd_lt h (by decide)) h
theorem rk_11_10 (i : Nat) (h : (kd i).1 = 11) : kd (rt i 10) = (1, 0) := by
  have hh : ∀ i, i < NC → (kd i).1 = 11 → kd (rt i 10) = (1, 0) := by decide +kernel
  exact hh i (kd_lt h (by decide)) h
theorem rk_11_11 (i : Nat) (h : (kd i).1 = 11) : kd (rt i 11) = (4, 0) := by
  have hh : ∀ i, i < NC → (kd i).1 = 11 → kd (rt i 11) = (4, 0) := by decide +kernel
  exact hh i (kd_lt h (by decide)) h
theorem rk_11_12 (i : Nat) (h : (kd i).1 = 11) : kd (rt i 12) = (19, 4) := by
  have hh : ∀ i, i < NC → (kd i).1 = 11 → kd (rt i 12) = (19, 4) := by decide +kernel
  exact hh i (kd_lt h (by decide)) h
theorem re_11_12 (i : Nat) (h : (kd i).1 = 11) : ∀ q, q < 4 → kd (rt (rt i 12) q) = (10, 0) := by
  have hh : ∀ i, i < NC → (kd i).1 = 11 → ∀ q, q < 4 → kd (rt (rt i 12) q) = (10, 0) := by decide +kernel
  exact hh i (kd_lt h (by decide)) h
theorem rk_11_13 (i : Nat) (h : (kd i).1 = 11) : kd (rt i 13) = (20, 3) := by
  have hh : ∀ i, i < NC → (kd i).1 = 11 → kd (rt i 13) = (20, 3) := by decide +kernel
  exact hh i (kd_lt h (by decide)) h
theorem re_11_13 (i : Nat) (h : (kd i).1 = 11) : ∀ q, q < 3 → kd (rt (rt i 13) q) = (8, 0) := by
  have hh : ∀ i, i < NC → (kd i).1 = 11 → ∀ q, q < 3 → kd (rt (rt i 13) q) = (8, 0) := by decide +kernel
  exact hh i (kd_lt h (by decide)) h
theorem rk_11_14 (i : Nat) (h : (kd i).1 = 11) : kd (rt i 14) = (21, 3) := by
  have hh : ∀ i, i < NC → (kd i).1 = 11 → kd (rt i 14) = (21, 3) := by decide +kernel
  exact hh i (kd_lt h (by decide)) h
theorem re_11_14 (i : Nat) (h : (kd i).1 = 11) : ∀ q, q < 3 → kd (rt (rt i 14) q) = (0, 0) := by
  have hh : ∀ i, i < NC → (kd i).1 = 11 → ∀ q, q < 3 → kd (rt (rt i 14) q) = (0, 0) := by decide +kernel
  exact hh i (kd_lt h (by decide)) h
theorem rk_11_15 (i : Nat) (h : (kd i).1 = 11) : kd (rt i 15) = (15, 3) := by
  have hh : ∀ i, i < NC → (kd i).1 = 11 → kd (rt i 15) = (15, 3) := by decide +kernel
  exact hh i (kd_lt h (by decide)) h
theorem at_RX11_120_0 : atOk RX11 120 0 := by
  unfold atOk
  decide +kernel
theorem at_RX11_205_1 : nsOk RX11 205 := by
  unfold nsOk
  decide +kernel
theorem at_RX11_230_2 : atOk RX11 230 2 := by
  unfold atOk
  decide +kernel
theorem at_RX11_416_3 : atOk RX11 416 3 := by
  unfold atOk
  decide +kernel
