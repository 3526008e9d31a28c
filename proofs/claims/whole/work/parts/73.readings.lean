/-! ===== readings: the call ===== -/
set_option maxRecDepth 16384 in
theorem kn_el {V : Nat → Nat} : ∀ {P x : Nat}, x ∈ kn V P → ∃ i, i < P ∧ x = V i / 2
  | 0, x, h => absurd h List.not_mem_nil
  | P + 1, x, h => by
    rw [kn] at h
    unfold kn1 at h
    by_cases c : V P / 2 ∈ kn V P
    · rw [if_pos c] at h
      obtain ⟨i, hi, e⟩ := kn_el h
      exact ⟨i, by omega, e⟩
    · rw [if_neg c] at h
      rcases List.mem_append.mp h with z | z
      · obtain ⟨i, hi, e⟩ := kn_el z
        exact ⟨i, by omega, e⟩
      · exact ⟨P, by omega, List.mem_singleton.mp z⟩
def ansR (K T : Nat → Int32) (B : Nat → Nat) (L : List Nat) (w : Nat) : Nat := if w = 0 then L.length else if w = 1 then ulk (eqW K B) L L.length else fm (decide (w = 2)) (fun k => (aL K T (gv K 7) (ga K + 1)).countP (fun p => (L.getD k 0).testBit (B (wx K p)))) (L.length - 1)
set_option maxRecDepth 16384 in
theorem ulk_congr {E E' : Nat → Nat → Bool} (h : ∀ a b, E a b = E' a b) (L : List Nat) (n : Nat) : ulk E L n = ulk E' L n := by
  rw [show E = E' from funext (fun a => funext (fun b => h a b))]
set_option maxRecDepth 16384 in
theorem c_readAns {h : PH} {t s m w : Nat} (I : INV h) (ht : t < 4) (hw : w < 4) (c : f_X11_trayThere 0 (nI t) h = some (.inl (85 + 2 * t), h)) (hm : m ≤ 30) (d5 : h.1 (85 + 2 * t) 1 = nI m) {N : Nat → Int64} (hN : ∀ k, k < 30 → h.2 (86 + 2 * t) k = N k) : ok (f_X11_readings 0 (nI t) (nI w) h) (fun x h' => CQ h h' ∧ (sayOk (gc (h.1 153)) m N → x = .inl (nI (ansR (h.1 153) (h.1 159) (AW (VN N) ((m + 1) / 2)) (LL (UN N) ((m + 1) / 2 - 1) 0) w))) ∧ (¬ sayOk (gc (h.1 153)) m N → x = .inr 0)) := by
  have H := I.1.1
  have hb := rk_b H
  have hg : gc (h.1 153) ≤ 12 := hb.2.2.2.1
  have h7 : h.1 3 7 = nI (gc (h.1 153)) := I.2.2.2.1.1.2.2.2.2.2.2.2.1
  have hck : f_X11_checkWhat 0 (nI w) (3 : Int32) h = some (.inl (), h) := c_checkWhat (n := 3) (by decide) ⟨w, hw, rfl⟩
  unfold f_X11_readings
  simp only [c, pw_cbx, gk_tr ht, hck, r_0_10, r_0_7]
  refine ok_cb (c_takeSaid hg h7 ht hm d5 hN) ?_
  rintro r5 h6 ⟨e6, q6⟩
  have C6 : CQ h h6 := CQ_sc I e6 (by decide) (by decide) (by decide) (by decide) (by decide)
  rcases q6 with ⟨sy, rfl, tk⟩ | ⟨ns, rfl⟩
  · have sy' := sy
    obtain ⟨m1, m2, m3⟩ := sy'
    generalize hPP : (m + 1) / 2 = P at *
    have hP1 : 1 ≤ P := by omega
    have hP5 : P ≤ 5 := by omega
    obtain ⟨sp, hj⟩ := TK_SP hPP m1 hP5 tk
    rw [if_neg (show ¬ bI true = (0 : Int32) by decide)]
    refine ok_cb (c_bracket hP1 hP5 tk.1 hj sp) ?_
    rintro r7 h8 ⟨e8, sp8⟩
    have C8 : CQ h6 h8 := CQ_sc C6.2 e8 (by decide) (by decide) (by decide) (by decide) (by decide)
    have C08 := CQ_trans C6 C8
    have v78 : h8.1 42 7 = nI P := by rw [(e8 42 (by decide)).1]; exact tk.1
    have rw8 := sp8 (P - 1) 0 (by omega) (Or.inl (by omega))
    rw [show 5 * 0 + (0 + (P - 1)) = P - 1 by omega] at rw8
    have hLL := LL_len (UN N) (P - 1) 0 (by omega)
    have hcn : 1 ≤ cn (P - 1) ∧ cn (P - 1) ≤ 14 := (by decide : ∀ d, d < 5 → 1 ≤ cn d ∧ cn d ≤ 14) _ (by omega)
    have hv2 : ∀ i, i < P → VN N i / 2 < gc (h.1 153) := fun i hi => by
      have := (VN_ok hg (m3 (2 * i) (by omega))).2.1
      omega
    have hkl := kn_len (VN N) P
    have hce : CE (kn (VN N) P) h6 := by
      have := tk.2.1
      rw [hPP] at this
      exact this
    generalize hLg : LL (UN N) (P - 1) 0 = L at *
    by_cases w2 : 2 ≤ w
    · rw [if_pos (show (2 : Int32) ≤ nI w by rw [pw_lit, pw_leI (by omega) (by omega)]; exact w2)]
      have I8 := C08.2
      refine ok_cb (c_settled I8.fc I8.2.2.2.2.2.2.1 I8.op) ?_
      rintro r9 h10 ⟨e10, F10, cc10, ct10, o10⟩
      have C10 : CQ h8 h10 := ⟨eqx_mono e10 (by decide), I8.c (eqx_mono e10 (by decide)) F10.2.2.2 cc10⟩
      have C010 := CQ_trans C08 C10
      rw [C08.k, C08.t] at F10 ct10
      have ce10 : CE (kn (VN N) P) h10 := CE_to (by rw [(e10 42 (by decide)).1, (e8 42 (by decide)).1]) (by rw [(e10 44 (by decide)).1, (e8 44 (by decide)).1]) hce
      have rw10 : RW (AC (VN N) P) (P - 1) L h10 := rw8.of (by rw [(e10 72 (by decide)).1]) ((e10 _ (by simp; omega)).1)
      refine ok_joinT (fun t11 h12 => h12 = h10 ∧ t11 = bI (decide (w = 2))) ?_ (fun j90 hj90 => ?_)
      · rintro t11 h12 ⟨rfl, rfl⟩
        refine ok_cb (c_heldIn F10.1 F10.2.1 ct10 ce10 (by omega) (fun k hk => by
          obtain ⟨i, hi, he⟩ := kn_el (getD_mem hk)
          have := hv2 i hi
          omega) hP1 hP5 (by rw [(e10 42 (by decide)).1]; exact v78) rw10 (by omega) (by omega)) ?_
        rintro r13 h14 ⟨e14, rfl⟩
        have C14 : CQ h12 h14 := CQ_sc C010.2 e14 (by decide) (by decide) (by decide) (by decide) (by decide)
        refine ok_some ⟨CQ_trans C010 C14, fun _ => ?_, fun z => absurd sy z⟩
        unfold ansR
        rw [if_neg (by omega), if_neg (by omega)]
        congr 2
        congr 1
        funext k
        congr 1
        funext p
        rw [AC_cs]
      · have e2' : (nI w = (2 : Int32)) = (w = 2) := pw_eqI (a := w) (b := 2) (by omega) (by omega)
        simp only [e2']
        by_cases q : w = 2
        · rw [if_pos q]
          exact hj90 _ _ ⟨rfl, by rw [decide_eq_true q]; rfl⟩
        · rw [if_neg q]
          exact hj90 _ _ ⟨rfl, by rw [decide_eq_false q]; rfl⟩
    · rw [if_neg (show ¬ (2 : Int32) ≤ nI w by rw [pw_lit, pw_leI (by omega) (by omega)]; exact w2)]
      refine ok_joinT (fun t15 h16 => h16 = h8 ∧ t15 = nI (ansR (h.1 153) (h.1 159) (AW (VN N) P) L w)) (fun t15 h16 q => by
        obtain ⟨rfl, rfl⟩ := q
        exact ok_some ⟨C08, fun _ => rfl, fun z => absurd sy z⟩) (fun j67 hj67 => ?_)
      rcases (by omega : w = 0 ∨ w = 1) with rfl | rfl
      · rw [if_pos (show nI 0 = 0 from rfl), c_all1 hP1 hP5 v78 rw8]
        simp only [pw_cb]
        exact hj67 _ _ ⟨rfl, rfl⟩
      · rw [if_neg (show ¬ nI 1 = 0 by decide), c_unlike hP1 hP5 v78 rw8 (by omega)]
        simp only [pw_cb]
        refine hj67 _ _ ⟨rfl, ?_⟩
        unfold ansR
        rw [if_neg (by decide), if_pos rfl, ulk_congr (eqCW H hP5 hv2)]
  · rw [if_pos (show bI false = (0 : Int32) from rfl)]
    exact ok_some ⟨C6, fun z => absurd z ns, fun _ => rfl⟩
set_option maxRecDepth 16384 in
theorem e_readAns {K T : Nat → Int32} {t m w : Nat} {N : Nat → Int64} {h : PH} (R : RX K T h) (ht : t < 4) (hw : w < 4) (hm : m ≤ 30) (r : f_X12_trayFault 152 (nI t) h = some (nI 0, h)) (m5 : h.1 175 t = nI m) (hnum : ∀ k, k < 30 → h.2 176 (30 * t + k) = N k) (sy : sayOk (gc K) m N) : ok (f_X12_readings 152 (nI t) (nI w) h) (fun b h' => b = nI (ansR K T (AW (VN N) ((m + 1) / 2)) (LL (UN N) ((m + 1) / 2 - 1) 0) w) ∧ h'.1 152 5 = nI 0 ∧ RQ h h') := by
  have H := R.1
  have hb := rk_b H
  have hg : gc K ≤ 12 := hb.2.2.2.1
  obtain ⟨m1, m2, m3⟩ := id sy
  unfold f_X12_readings
  refine ok_cb (e_sayFault (b := nI w) (by rw [R.2.1]; exact H) ht hm r m5 hnum) ?_
  rintro x h2 ⟨rfl, x1, -⟩
  rw [x1 ⟨⟨w, hw, rfl⟩, by rw [R.2.1]; exact sy⟩]
  refine ok_lt ?_
  rw [if_pos (show (pI h2 152 5 (nI 0)).1 152 5 ≤ 0 by rw [pw_pIs]; decide)]
  have R3 : RX K T (pI h2 152 5 (nI 0)) := RX_pI R
  have Q3 : RQ h2 (pI h2 152 5 (nI 0)) := RQ_th
  have z5 : (pI h2 152 5 (nI 0)).1 152 5 = nI 0 := pw_pIs
  have m53 : (pI h2 152 5 (nI 0)).1 175 t = nI m := by rw [pw_pIo (by omega)]; exact m5
  have num3 : ∀ k, k < 30 → (pI h2 152 5 (nI 0)).2 176 (30 * t + k) = N k := hnum
  generalize pI h2 152 5 (nI 0) = h3 at *
  simp only [r_152_37, r_152_31, r_152_32]
  rw [pw_ldI ht (by omega), m53, show ∀ o : Option (Int32 × PH), nz (2 : Int32) o = o from fun o => pw_nz (k := 2) (by omega) (by omega)]
  have hP : (nI m + (1 : Int32)) / (2 : Int32) = nI ((m + 1) / 2) := by
    rw [pw_lit, pw_lit, nI_add, pw_dv (by omega) (by omega) (by omega)]
  rw [hP]
  generalize hPP : (m + 1) / 2 = P at *
  have hP1 : 1 ≤ P := by omega
  have hP5 : P ≤ 5 := by omega
  have hv : ∀ i, i < P → (N (2 * i)).toInt32 = nI (VN N i) ∧ VN N i < 64 := fun i hi => by
    have := VN_ok hg (m3 (2 * i) (by omega))
    exact ⟨this.2.2.2, this.2.2.1⟩
  refine ok_lt (ok_lt (ok_lt ?_))
  have R6 : RX K T (pI h3 152 33 (0 : Int32)) := R3.to (eqx_pI (S := [152]) (by simp)) (by decide) (by decide) (by decide)
  have Q6 : RQ h3 (pI h3 152 33 (0 : Int32)) := RQ_pI (by decide) (by decide) (by decide)
  have z56 : (pI h3 152 33 (0 : Int32)).1 152 5 = nI 0 := by rw [pw_pIo (by omega)]; exact z5
  have v33 : (pI h3 152 33 (0 : Int32)).1 152 33 = nI 0 := pw_pIs
  have num6 : ∀ k, k < 30 → (pI h3 152 33 (0 : Int32)).2 176 (30 * t + k) = N k := num3
  generalize pI h3 152 33 (0 : Int32) = h6 at *
  have hLL := LL_len (UN N) (P - 1) 0 (by omega)
  have hcn : 1 ≤ cn (P - 1) ∧ cn (P - 1) ≤ 14 := (by decide : ∀ d, d < 5 → 1 ≤ cn d ∧ cn d ≤ 14) _ (by omega)
  have h39 := tot_b (P := P) (d := P - 1) (f := 0) hP5 (by omega)
  refine ok_join (fun h8 => RQ h2 h8 ∧ RX K T h8 ∧ h8.1 152 5 = nI 0 ∧ RR K (AW (VN N) P) (P - 1) (LL (UN N) (P - 1) 0) (tot P (P - 1) 0) h8) ?_ (fun j80 hj80 => ?_)
  · rintro h8 ⟨Q8, R8, z8, r8⟩
    generalize LL (UN N) (P - 1) 0 = L at *
    generalize tot P (P - 1) 0 = F at *
    have hs : nI P - (1 : Int32) = nI (P - 1) := by rw [pw_lit, pw_sub hP1]
    rw [hs, pw_ldI (by omega) (by omega), r8.1]
    refine ok_lt ?_
    rw [pw_ldI (by omega) (by omega), r8.2.1]
    refine ok_lt ?_
    have e0 : (nI w = (0 : Int32)) = (w = 0) := pw_eqI (a := w) (b := 0) (by omega) (by omega)
    have e1 : (nI w = (1 : Int32)) = (w = 1) := pw_eqI (a := w) (b := 1) (by omega) (by omega)
    simp only [e0, e1]
    unfold ansR
    by_cases w0 : w = 0
    · rw [if_pos w0, if_pos w0]
      exact ok_some ⟨rfl, z8, Q8⟩
    · rw [if_neg w0, if_neg w0]
      by_cases w1 : w = 1
      · rw [if_pos w1, if_pos w1, e_unlike H r8 (by omega)]
        simp only [pw_cb]
        exact ok_some ⟨rfl, z8, Q8⟩
      · rw [if_neg w1, if_neg w1]
        have hho : ∀ k, k < L.length → f_X12_holdsIn 152 (nI (F + k)) h8 = some (nI ((aL K T (gv K 7) (ga K + 1)).countP (fun p => (L.getD k 0).testBit (AW (VN N) P (wx K p)))), h8) := fun k hk => e_holdsIn R8 r8 (by omega) hk
        have hal := aL_len K T (gv K 7) (ga K + 1)
        generalize hgg : (fun k => (aL K T (gv K 7) (ga K + 1)).countP (fun p => (L.getD k 0).testBit (AW (VN N) P (wx K p)))) = g at *
        have hgv : ∀ k, (aL K T (gv K 7) (ga K + 1)).countP (fun p => (L.getD k 0).testBit (AW (VN N) P (wx K p))) = g k := fun k => by rw [← hgg]
        simp only [hgv] at hho
        have hg5 : ∀ k, g k ≤ 5000 := fun k => by
          rw [← hgv k]
          have := List.countP_le_length (p := fun p => (L.getD k 0).testBit (AW (VN N) P (wx K p))) (l := aL K T (gv K 7) (ga K + 1))
          omega
        have h00 := hho 0 (by omega)
        rw [Nat.add_zero] at h00
        rw [h00]
        simp only [pw_cb]
        refine ok_lt (ok_lt ?_)
        refine lp_ok (fun n s h9 => ∃ k, k + n + 1 = L.length ∧ s = (nI (fm (decide (w = 2)) g k), nI (k + 1)) ∧ h9 = h8) ?_ FU (L.length - 1) _ h8 ⟨0, by omega, rfl, rfl⟩ (fu_lt (by omega))
        rintro n rec s h9 ⟨k, hk, rfl, rfl⟩ hrec
        unfold b_X12_readings_132
        by_cases h0 : n = 0
        · rw [if_pos ((nI_leI (by omega) (by omega)).mpr (by omega))]
          rw [show L.length - 1 = k by omega]
          exact ok_some ⟨rfl, z8, Q8⟩
        · rw [if_neg (fun z => by have := (nI_leI (by omega) (by omega)).mp z; omega)]
          dsimp only
          rw [nI_add, hho (k + 1) (by omega)]
          simp only [pw_cb]
          have hf := fm_le (mx := decide (w = 2)) hg5 k
          have hg1 := hg5 (k + 1)
          refine ok_lt ?_
          refine ok_joinT (fun t20 h21 => h21 = h9 ∧ t20 = nI (fm (decide (w = 2)) g (k + 1))) ?_ (fun j172 hj172 => ?_)
          · rintro t20 h21 ⟨rfl, rfl⟩
            refine ok_lt (ok_lt ?_)
            rw [pw_oi, nI_add]
            exact hrec (n - 1) _ _ (by omega) ⟨k + 1, by omega, rfl, rfl⟩
          · have l1 : (nI (g (k + 1)) < nI (fm (decide (w = 2)) g k)) = (g (k + 1) < fm (decide (w = 2)) g k) := pw_ltI (by omega) (by omega)
            have l2 : (nI (fm (decide (w = 2)) g k) < nI (g (k + 1))) = (fm (decide (w = 2)) g k < g (k + 1)) := pw_ltI (by omega) (by omega)
            have e2 : (nI w = (2 : Int32)) = (w = 2) := pw_eqI (a := w) (b := 2) (by omega) (by omega)
            simp only [l1, l2, e2]
            by_cases w2 : w = 2
            · rw [if_pos w2]
              refine hj172 _ _ ⟨rfl, ?_⟩
              rw [decide_eq_true w2]
              have hz : fm true g (k + 1) = if fm true g k < g (k + 1) then g (k + 1) else fm true g k := rfl
              rw [hz]
              split <;> rfl
            · rw [if_neg w2]
              refine hj172 _ _ ⟨rfl, ?_⟩
              rw [decide_eq_false w2]
              have hz : fm false g (k + 1) = if g (k + 1) < fm false g k then g (k + 1) else fm false g k := rfl
              rw [hz]
              split <;> rfl
  · refine e_spans (j80 := j80) (P := P) (t := t) (N := N) (K := K) (b47 := fun s38 j74 => b_X12_readings_47 152 (nI t) (nI P) s38 j74) (fun rec s hh => by unfold b_X12_readings_38; rfl) (fun s38 j74 rec s hh => by unfold b_X12_readings_47; rfl) H R6.2.1 ht hP1 hP5 num6 hv v33 (fun h' e' o' r' => hj80 h' ⟨?_, ?_, ?_, r'⟩)
    · exact RQ_trans Q3 (RQ_trans Q6 ⟨eqx_mono e' (by decide), o' 7 (by decide), o' 15 (by decide), o' 16 (by decide)⟩)
    · exact R6.to e' (by decide) (by decide) (by decide)
    · rw [o' 5 (by decide)]
      exact z56
set_option maxRecDepth 16384 in
theorem call_readings {h : PH} {a b : Int32} (I : INV h) : PC hs_L_readings (f_X11_readings 0 a b) (f_X12_readings 152 a b) h := by
  have H := I.1.1
  have hfault : ∀ (k : Nat) (q : Nat × Int32), hs_L_readings.find? (fun q => q.1 == k) = some q → q.2 ≠ nI 0 → ok (f_X11_readings 0 a b h) (fun x h' => x = .inr k ∧ CQ h h') → (∀ h2, eqx (177 :: clL) h h2 → ok (f_X12_sayFault 152 a b h2) (fun x h3 => x = q.2 ∧ h3 = h2)) → PC hs_L_readings (f_X11_readings 0 a b) (f_X12_readings 152 a b) h := by
    intro k q q1 q2 hc hr
    refine PC_q2 (.inr k) hc (fun h2 R2 I2 e2 => ?_)
    unfold f_X12_readings
    refine ok_cb (hr h2 e2) ?_
    rintro x h3 ⟨rfl, rfl⟩
    refine ok_lt ?_
    have hq : ¬ q.2 ≤ (0 : Int32) := by
      have : q ∈ hs_L_readings := List.mem_of_find?_eq_some q1
      exact (by decide : ∀ q, q ∈ hs_L_readings → ¬ q.2 ≤ (0 : Int32)) q this
    rw [th_pI, if_neg hq]
    exact ok_some ⟨⟨q, q1, q2, th_pI⟩, RQ_th⟩
  rcases tray_cases a I with ⟨c, r⟩ | ⟨c, r⟩ | ⟨t, s, m, ht, rfl, ⟨d1, d2, d3, d4, d5, d6, d7⟩, c, r⟩
  · refine hfault 1 (1, 1) rfl (by decide) ?_ (fun h2 e2 => ?_)
    · unfold f_X11_readings
      simp only [c, pw_cbxr]
      exact ok_some ⟨rfl, CQ_rfl I⟩
    · unfold f_X12_sayFault
      simp only [r h2 (e2 174 (by decide)).1, pw_cb, pw_lt]
      rw [if_neg (by decide)]
      exact ok_some ⟨rfl, rfl⟩
  · refine hfault 2 (2, 2) rfl (by decide) ?_ (fun h2 e2 => ?_)
    · unfold f_X11_readings
      simp only [c, pw_cbxr]
      exact ok_some ⟨rfl, CQ_rfl I⟩
    · unfold f_X12_sayFault
      simp only [r h2 (e2 174 (by decide)).1, pw_cb, pw_lt]
      rw [if_neg (by decide)]
      exact ok_some ⟨rfl, rfl⟩
  · have hsf : ∀ h2, eqx (177 :: clL) h h2 → ok (f_X12_sayFault 152 (nI t) b h2) (fun x h' => h' = h2 ∧ (inN 4 b ∧ sayOk (gc (h.1 153)) m (h.2 (86 + 2 * t)) → x = nI 0) ∧ (¬ (inN 4 b ∧ sayOk (gc (h.1 153)) m (h.2 (86 + 2 * t))) → x = nI 3)) := fun h2 e2 => by
      have k153 := (e2 153 (by decide)).1
      have := e_sayFault (b := b) (N := h.2 (86 + 2 * t)) (h := h2) (by rw [k153]; exact H) ht d2 (r h2 (e2 174 (by decide)).1) (by rw [(e2 175 (by decide)).1]; exact d6) (fun k hk => by rw [(e2 176 (by decide)).2]; exact (d7 k hk).symm)
      rw [k153] at this
      exact this
    by_cases qb : inN 4 b
    · obtain ⟨w, hw, rfl⟩ := id qb
      by_cases sy : sayOk (gc (h.1 153)) m (h.2 (86 + 2 * t))
      · refine PC_q2 (.inl (nI (ansR (h.1 153) (h.1 159) (AW (VN (h.2 (86 + 2 * t))) ((m + 1) / 2)) (LL (UN (h.2 (86 + 2 * t))) ((m + 1) / 2 - 1) 0) w))) ?_ (fun h2 R2 I2 e2 => ?_)
        · refine ok_mono (c_readAns (s := s) I ht hw c d2 d5 (N := h.2 (86 + 2 * t)) (fun k _ => rfl)) ?_
          rintro x h' ⟨q1, q2, -⟩
          exact ⟨q2 sy, q1⟩
        · refine ok_mono (e_readAns R2 ht hw d2 (r h2 (e2 174 (by decide)).1) (by rw [(e2 175 (by decide)).1]; exact d6) (fun k hk => by rw [(e2 176 (by decide)).2]; exact (d7 k hk).symm) sy) ?_
          rintro b h' ⟨rfl, z, q⟩
          exact ⟨⟨z, rfl⟩, q⟩
      · refine hfault 0 (0, 3) rfl (by decide) ?_ (fun h2 e2 => ?_)
        · refine ok_mono (c_readAns (s := s) I ht hw c d2 d5 (N := h.2 (86 + 2 * t)) (fun k _ => rfl)) ?_
          rintro x h' ⟨q1, -, q3⟩
          exact ⟨q3 sy, q1⟩
        · refine ok_mono (hsf h2 e2) ?_
          rintro x h3 ⟨rfl, -, z⟩
          exact ⟨z (fun y => sy y.2), rfl⟩
    · refine hfault 0 (0, 3) rfl (by decide) ?_ (fun h2 e2 => ?_)
      · have hck : f_X11_checkWhat 0 b (3 : Int32) h = some (.inr 0, h) := c_checkWhat1 (n := 3) (by decide) qb
        unfold f_X11_readings
        simp only [c, pw_cbx, gk_tr ht, hck, pw_cbxr]
        exact ok_some ⟨rfl, CQ_rfl I⟩
      · refine ok_mono (hsf h2 e2) ?_
        rintro x h3 ⟨rfl, -, z⟩
        exact ⟨z (fun y => qb y.1), rfl⟩
