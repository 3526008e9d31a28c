theorem bp_6 : (Int8.ofInt 6).toInt32 = (6 : Int32) := by decide
theorem bp_12 : (Int8.ofInt 12).toInt32 = (12 : Int32) := by decide
theorem ic_0 : Int32.ofInt 0 = (0 : Int32) := by decide
theorem ic_1 : Int32.ofInt 1 = (1 : Int32) := by decide
theorem sp_900 : (Int16.ofInt 900).toInt32 = (900 : Int32) := by decide
theorem lk_180 : Cond.fieldLink RX8 40 "RainWishes$Sky" "wishes" "I" ∈ WSG := lk 180 (by decide +kernel) (by decide +kernel)
theorem lk_203 : Cond.fieldLink RX8 46 "RainWishes$Sky" "codes" "I" ∈ WSG := lk 203 (by decide +kernel) (by decide +kernel)
theorem lk_205 : Cond.fieldLink RX8 58 "RainWishes$Sky" "blown" "I" ∈ WSG := lk 205 (by decide +kernel) (by decide +kernel)
theorem lk_206 : Cond.fieldLink RX8 61 "RainWishes$Sky" "blownBy" "I" ∈ WSG := lk 206 (by decide +kernel) (by decide +kernel)
theorem lk_212 : Cond.fieldLink RX8 19 "RainWishes$Sky" "weight" "[I" ∈ WSG := lk 212 (by decide +kernel) (by decide +kernel)
theorem lk_220 : Cond.fieldLink RX8 25 "RainWishes$Sky" "code" "[I" ∈ WSG := lk 220 (by decide +kernel) (by decide +kernel)
theorem lk_342 : Cond.fieldLink RX0 15 "RainWishes$Book" "dues" "[I" ∈ WSG := lk 342 (by decide +kernel) (by decide +kernel)
theorem iw_0 : ∀ w ∈ u_ws RX0 TX0 6, w ∈ WSG := by
  have h : ∀ w ∈ u_ws RX0 TX0 6, w ∈ lw_tbl ∧ goodWord w = true := by decide +kernel
  exact fun w hw => wsg (h w hw).1 (h w hw).2
theorem iw_8 : ∀ w ∈ u_ws RX8 TX8 16, w ∈ WSG := by
  have h : ∀ w ∈ u_ws RX8 TX8 16, w ∈ lw_tbl ∧ goodWord w = true := by decide +kernel
  exact fun w hw => wsg (h w hw).1 (h w hw).2
theorem ft_8 : FT TX8 16 tyX8 := ⟨tyX8_ok, nmX8⟩
theorem ff_0_2 : FF 0 2 RX0 TX0 6 2 := ⟨iw_0, rfl, by decide, by decide, rfl, by decide⟩
theorem ff_8_5 : FF 8 5 RX8 TX8 16 0 := ⟨iw_8, rfl, by decide, by decide, rfl, by decide⟩
theorem ff_8_9 : FF 8 9 RX8 TX8 16 0 := ⟨iw_8, rfl, by decide, by decide, rfl, by decide⟩
theorem ff_8_10 : FF 8 10 RX8 TX8 16 0 := ⟨iw_8, rfl, by decide, by decide, rfl, by decide⟩
theorem ff_8_11 : FF 8 11 RX8 TX8 16 0 := ⟨iw_8, rfl, by decide, by decide, rfl, by decide⟩
theorem ff_8_13 : FF 8 13 RX8 TX8 16 2 := ⟨iw_8, rfl, by decide, by decide, rfl, by decide⟩
theorem ff_8_15 : FF 8 15 RX8 TX8 16 2 := ⟨iw_8, rfl, by decide, by decide, rfl, by decide⟩
theorem rk_0_2 (i : Nat) (h : (kd i).1 = 0) : kd (rt i 2) = (13, 6) := by
  have hh : ∀ i, i < NC → (kd i).1 = 0 → kd (rt i 2) = (13, 6) := by decide +kernel
  exact hh i (kd_lt h (by decide)) h
theorem rk_8_13 (i : Nat) (h : (kd i).1 = 8) : kd (rt i 13) = (13, 10) := by
  have hh : ∀ i, i < NC → (kd i).1 = 8 → kd (rt i 13) = (13, 10) := by decide +kernel
  exact hh i (kd_lt h (by decide)) h
theorem rk_8_15 (i : Nat) (h : (kd i).1 = 8) : kd (rt i 15) = (13, 900) := by
  have hh : ∀ i, i < NC → (kd i).1 = 8 → kd (rt i 15) = (13, 900) := by decide +kernel
  exact hh i (kd_lt h (by decide)) h
