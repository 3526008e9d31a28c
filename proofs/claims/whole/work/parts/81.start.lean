/-! ===== the start: what the constructors leave keeps the invariant ===== -/
def staL : List Nat := [3, 8, 13, 31, 85, 87, 89, 91, 95, 114, 133, 152, 153, 174]
def STA (h : PH) : Prop := (∀ c, c ∉ staL → ∀ j, h.1 c j = 0) ∧ (∀ c j, h.2 c j = 0) ∧ (∀ j, h.1 153 j = if j = 3 then 3 else 0) ∧ (∀ j, h.1 3 j = if j = 3 then 3 else 0) ∧ (h.1 13 10 = 0 ∧ h.1 13 11 = mI) ∧ h.1 31 0 = mI ∧ (∀ t, t < 4 → h.1 (85 + 2 * t) 1 = mI ∧ h.1 174 t = mI) ∧ (h.1 152 7 = 0 ∧ h.1 152 15 = 0 ∧ h.1 152 16 = mI)
set_option maxRecDepth 16384 in
theorem st_inv {h : PH} (S : STA h) : ∃ h9, f_X12_laysTruths 152 h = some ((), h9) ∧ eqx [159, 160, 161] h h9 ∧ INV h9 := by
  obtain ⟨sz, sl, s153, s3, ⟨s13a, s13b⟩, s31, sT, s7, s15, s16⟩ := S
  have g : ∀ j, gv (h.1 153) j = if j = 3 then 3 else 0 := fun j => by
    unfold gv
    rw [s153]
    by_cases e : j = 3
    · rw [if_pos e, if_pos e]; decide
    · rw [if_neg e, if_neg e]; decide
  have kj : ∀ j, h.1 153 j = nI (gv (h.1 153) j) := fun j => by
    rw [g, s153]
    by_cases e : j = 3
    · rw [if_pos e, if_pos e]; decide
    · rw [if_neg e, if_neg e]; decide
  have g5 : gv (h.1 153) 5 = 0 := by rw [g]; decide
  have g6 : gv (h.1 153) 6 = 0 := by rw [g]; decide
  have g65 : gv (h.1 153) 65 = 0 := by rw [g]; decide
  have hgc : gc (h.1 153) = 0 := by unfold gc; rw [g, g]; decide
  have hga : ga (h.1 153) = 0 := by unfold ga; rw [hgc]
  have hmm : mm (h.1 153) = 0 := by unfold mm; rw [g5]; rfl
  have hbl : blm (h.1 153) = 0 := by
    have := blm_lt (h.1 153)
    rw [hgc] at this
    omega
  have H : RK (h.1 153) := by
    refine ⟨fun j _ => kj j, by rw [g]; decide, by rw [g]; decide, by rw [g]; decide, by rw [hgc]; decide, by rw [g]; decide, by rw [g]; decide, by rw [g]; decide, by rw [g]; decide, by rw [g, g]; decide, by rw [g, g]; decide, fun i hi => absurd hi (by rw [g5]; omega)⟩
  have U : RU (h.1 153) := fun k hk => absurd hk (by rw [g6]; omega)
  have W : KW (h.1 153) := by
    refine ⟨kj 65, by rw [g65]; decide, by unfold srt; rw [g]; decide, fun i hi => ⟨kj _, ?_⟩, fun i hi => absurd hi (by rw [g5]; omega), fun k hk => absurd hk (by rw [g65]; omega), fun i hi => absurd hi (by rw [g5]; omega)⟩
    rw [g5] at hi
    unfold srt
    rw [g, g65, if_neg (by omega)]
    exact Nat.le_refl _
  obtain ⟨r, h9, e, e1, ww, ev⟩ := e_laysTruths H W rfl
  have c1 : ∀ c, c ∉ [159, 160, 161] → h9.1 c = h.1 c := fun c hc => (e1 c hc).1
  have c2 : ∀ c, c ∉ [159, 160, 161] → h9.2 c = h.2 c := fun c hc => (e1 c hc).2
  refine ⟨h9, e, e1, ?_⟩
  unfold INV
  rw [c1 153 (by decide)]
  have S3 : SKY 3 (h.1 153) h := by
    refine ⟨⟨?_, ?_, ?_, ?_, ?_, ?_, ?_, ?_, ?_, ?_, fun q => absurd q (by rw [hgc]; decide)⟩, ?_, fun i hi => absurd hi (by rw [g5]; omega), fun i hi => absurd hi (by rw [g5]; omega), fun i hi q => absurd q (by rw [g5]; decide), fun k hk => absurd hk (by rw [g65]; omega)⟩
    · rw [s3, s153]
    · rw [s3, s153]
    · rw [s3, s153]
    · rw [s3, s153]
    · rw [s3, s153]
    · rw [s3, s153]
    · rw [s3, hmm]; decide
    · rw [s3, hgc]; decide
    · rw [s3, hga]; decide
    · rw [s3, hbl]; decide
    · rw [s3, g65]; decide
  have B16 : BK 16 (h.1 153) h := by
    refine ⟨?_, fun i hi => ?_, fun p hp => ?_, ?_, 0, by decide, ?_, fun k hk => absurd hk (by rw [g6]; omega)⟩
    · rw [sz 16 (by decide), s153]; decide
    · rw [sz 17 (by decide), s153, if_neg (by omega)]
    · rw [sz 18 (by decide), s153, if_neg (by omega)]
    · rw [sz 16 (by decide), s153]; decide
    · rw [sz 16 (by decide)]; decide
  refine ⟨⟨H, U, W⟩, ev, ww, SKY_to e1 (by decide) (by decide) (by decide) (by decide) (by decide) S3, BK_to e1 (by decide) (by decide) (by decide) (fun k hk => by simp; omega) B16, fun w hw => ?_, Or.inl ?_, ⟨0, by decide, ?_, ?_, fun k hk => absurd hk (by omega)⟩, ⟨?_, ?_⟩, fun t ht => Or.inl ⟨?_, ?_⟩, fun i hi => Or.inl ⟨?_, ?_⟩, fun c hc => ?_, fun n hn => ?_⟩
  · rw [hga] at hw
    have : w = 0 := by omega
    subst this
    rw [c1 31 (by decide)]
    exact Or.inl s31
  · rw [c1 33 (by decide), sz 33 (by decide)]; decide
  · rw [c1 0 (by decide), sz 0 (by decide)]; decide
  · rw [c1 152 (by decide), s7]; decide
  · rw [c1 13 (by decide), c1 152 (by decide), s13a, s15]
  · rw [c1 13 (by decide), c1 152 (by decide), s13b, s16]
  · rw [c1 _ (by simp; omega)]
    exact (sT t ht).1
  · rw [c1 174 (by decide)]
    exact (sT t ht).2
  · rw [c1 2 (by decide), sz 2 (by decide)]; decide
  · rw [c1 157 (by decide), sz 157 (by decide)]; decide
  · rw [c2 76 (by decide), sl]; rfl
  · rw [c2 _ (by simp; omega), sl]; rfl
