/-! the fixed cells: kind and length of each, its references; the field types of the classes -/
def NC : Nat := 177
def kdL : List (Nat × Nat) := [(11, 0), (14, 900), (15, 3), (8, 0), (13, 10), (13, 10), (13, 11), (13, 900), (8, 0), (13, 10), (13, 10), (13, 11), (13, 900), (6, 0), (13, 900), (9, 0), (0, 0), (13, 10), (13, 6), (17, 10), (13, 17), (13, 17), (13, 17), (13, 17), (13, 17), (13, 17), (13, 17), (13, 17), (13, 17), (13, 17), (3, 0), (13, 4096), (13, 900), (2, 0), (13, 4096), (13, 1024), (13, 1024), (7, 0), (13, 10), (13, 10), (5, 0), (13, 12), (1, 0), (13, 5), (13, 5), (13, 32), (17, 25), (13, 14), (13, 14), (13, 14), (13, 14), (13, 14), (13, 14), (13, 14), (13, 14), (13, 14), (13, 14), (13, 14), (13, 14), (13, 14), (13, 14), (13, 14), (13, 14), (13, 14), (13, 14), (13, 14), (13, 14), (13, 14), (13, 14), (13, 14), (13, 14), (13, 14), (13, 25), (4, 0), (13, 6), (18, 7), (16, 7), (16, 7), (16, 7), (16, 7), (16, 7), (16, 7), (16, 7), (16, 7), (19, 4), (10, 0), (16, 30), (10, 0), (16, 30), (10, 0), (16, 30), (10, 0), (16, 30), (20, 3), (21, 3), (8, 0), (13, 10), (13, 10), (13, 11), (13, 900), (0, 0), (13, 10), (13, 6), (17, 10), (13, 17), (13, 17), (13, 17), (13, 17), (13, 17), (13, 17), (13, 17), (13, 17), (13, 17), (13, 17), (8, 0), (13, 10), (13, 10), (13, 11), (13, 900), (0, 0), (13, 10), (13, 6), (17, 10), (13, 17), (13, 17), (13, 17), (13, 17), (13, 17), (13, 17), (13, 17), (13, 17), (13, 17), (13, 17), (8, 0), (13, 10), (13, 10), (13, 11), (13, 900), (0, 0), (13, 10), (13, 6), (17, 10), (13, 17), (13, 17), (13, 17), (13, 17), (13, 17), (13, 17), (13, 17), (13, 17), (13, 17), (13, 17), (12, 0), (13, 1200), (13, 1200), (13, 3600), (13, 17), (15, 3), (13, 900), (15, 40960), (13, 4096), (13, 64), (13, 4096), (15, 1024), (13, 1024), (13, 10), (13, 10), (13, 10), (13, 3), (13, 3), (16, 2496), (13, 25), (13, 25), (16, 49), (13, 4), (13, 4), (16, 120), (22, 1)]
def rtL : List (List Nat) := [[1, 0, 3, 8, 13, 16, 30, 33, 37, 40, 42, 73, 84, 93, 94, 2], [], [], [0, 0, 0, 0, 0, 0, 0, 0, 0, 0, 0, 0, 4, 5, 6, 7], [], [], [], [], [0, 0, 0, 0, 0, 0, 0, 0, 0, 0, 0, 0, 9, 10, 11, 12], [], [], [], [], [15, 8, 14], [], [1], [0, 17, 18, 0, 0, 19], [], [], [20, 21, 22, 23, 24, 25, 26, 27, 28, 29], [], [], [], [], [], [], [], [], [], [], [3, 31, 32], [], [], [3, 16, 30, 34, 0, 35, 36], [], [], [], [3, 16, 33, 38, 39], [], [], [3, 41], [], [3, 33, 43, 44, 45, 46, 72], [], [], [], [47, 48, 49, 50, 51, 52, 53, 54, 55, 56, 57, 58, 59, 60, 61, 62, 63, 64, 65, 66, 67, 68, 69, 70, 71], [], [], [], [], [], [], [], [], [], [], [], [], [], [], [], [], [], [], [], [], [], [], [], [], [], [], [74, 0, 75, 83], [], [76, 77, 78, 79, 80, 81, 82], [], [], [], [], [], [], [], [], [85, 87, 89, 91], [0, 0, 86], [], [0, 0, 88], [], [0, 0, 90], [], [0, 0, 92], [], [95, 114, 133], [100, 119, 138], [0, 0, 0, 0, 0, 0, 0, 0, 0, 0, 0, 0, 96, 97, 98, 99], [], [], [], [], [0, 101, 102, 0, 0, 103], [], [], [104, 105, 106, 107, 108, 109, 110, 111, 112, 113], [], [], [], [], [], [], [], [], [], [], [0, 0, 0, 0, 0, 0, 0, 0, 0, 0, 0, 0, 115, 116, 117, 118], [], [], [], [], [0, 120, 121, 0, 0, 122], [], [], [123, 124, 125, 126, 127, 128, 129, 130, 131, 132], [], [], [], [], [], [], [], [], [], [], [0, 0, 0, 0, 0, 0, 0, 0, 0, 0, 0, 0, 134, 135, 136, 137], [], [], [], [], [0, 139, 140, 0, 0, 141], [], [], [142, 143, 144, 145, 146, 147, 148, 149, 150, 151], [], [], [], [], [], [], [], [], [], [], [153, 154, 155, 156, 157, 0, 158, 0, 0, 0, 0, 0, 0, 0, 0, 0, 0, 0, 159, 160, 161, 162, 163, 164, 165, 166, 167, 168, 169, 0, 170, 171, 172, 0, 0, 173, 174, 175, 176], [], [], [], [], [], [], [], [], [], [], [], [], [], [], [], [], [], [], [], [], [], [], [], []]
def ftL : List (List Nat) := [[0, 2, 2, 0, 0, 2], [2, 2, 2, 2, 2, 2, 2, 0, 0], [2, 2, 2, 2, 0, 2, 2, 0, 0], [2, 2, 2], [2, 0, 2, 2], [2, 2, 0, 0, 0, 0, 0], [2, 2, 2, 0, 0, 0, 0, 0, 0, 0, 0, 0], [2, 2, 2, 2, 2, 0, 0, 0], [0, 0, 0, 0, 0, 0, 0, 0, 0, 0, 0, 0, 2, 2, 2, 2], [2, 0, 0, 0, 0], [0, 0, 2], [2, 0, 2, 2, 2, 2, 2, 2, 2, 2, 2, 2, 2, 2, 2, 2], [2, 2, 2, 2, 2, 0, 2, 0, 0, 0, 0, 0, 0, 0, 0, 0, 0, 0, 2, 2, 2, 2, 2, 2, 2, 2, 2, 2, 2, 0, 2, 2, 2, 0, 0, 2, 2, 2, 2]]
def kd (i : Nat) : Nat × Nat := kdL.getD i (99, 0)
def rt (i j : Nat) : Nat := (rtL.getD i []).getD j 0
def ft (c : Nat) : List Nat := ftL.getD c []
/-! ===== the pure heap, and how the machine's heap holds it ===== -/
abbrev PH : Type := (Nat → Nat → Int32) × (Nat → Nat → Int64)
def pI (h : PH) (i j : Nat) (v : Int32) : PH := (fun a b => if a = i ∧ b = j then v else h.1 a b, h.2)
def pL (h : PH) (i j : Nat) (v : Int64) : PH := (h.1, fun a b => if a = i ∧ b = j then v else h.2 a b)
def tv (ad : Nat → Nat) : Value → Value
  | .ref i => .ref (ad i)
  | v => v
theorem tv_cat (ad : Nat → Nat) (v : Value) : (tv ad v).category = v.category := by cases v <;> rfl
abbrev tq (ad : Nat → Nat) (q : Nat × Value) : Nat × Value := (q.1, tv ad q.2)
def fv (ad : Nat → Nat) (h : PH) (i j t : Nat) : Value := match t with
  | 0 => .int (h.1 i j)
  | 1 => .long (h.2 i j)
  | _ => .ref (ad (rt i j))
def fl (ad : Nat → Nat) (h : PH) (i : Nat) (ts : List Nat) : List Value := (List.range ts.length).map (fun j => fv ad h i j (ts.getD j 0))
theorem fl_get {ad : Nat → Nat} {h : PH} {i k : Nat} {ts : List Nat} (hk : k < ts.length) : (fl ad h i ts)[k]? = some (fv ad h i k (ts.getD k 0)) := by
  simp [fl, hk]
theorem fl_len {ad : Nat → Nat} {h : PH} {i : Nat} {ts : List Nat} : (fl ad h i ts).length = ts.length := by simp [fl]
/-- how many cells the world has: the law's own row 'out' (cell 177, kind 22) comes last; before it is made there is none -/
def nc (cA : Nat → ClassId) : Nat := if cA 23 = 0 then NC else NC + 1
theorem nc_le {cA : Nat → ClassId} : NC ≤ nc cA := by unfold nc; split <;> omega
theorem nc_le2 {cA : Nat → ClassId} : nc cA ≤ NC + 1 := by unfold nc; split <;> omega
def enk (cA : Nat → ClassId) (ad : Nat → Nat) (h : PH) (i : Nat) (k : Nat × Nat) : va_E :=
  if k.1 < 13 then .inr (k.1, fl ad h i (ft k.1))
  else if k.1 < 16 then .inl (cA k.1, k.2, .inl (h.1 i))
  else if k.1 = 16 then .inl (cA k.1, k.2, .inr (.inl (h.2 i)))
  else if k.1 = 22 then .inl (cA 16, k.2, .inr (.inl (h.2 i)))
  else .inl (cA k.1, k.2, .inr (.inr (.inr (.inr (fun j => some (ad (rt i j)))))))
def en (cA : Nat → ClassId) (ad : Nat → Nat) (h : PH) (i : Nat) : va_E := enk cA ad h i (kd i)
def wd (cA : Nat → ClassId) (ad : Nat → Nat) (h : PH) : va_W := (List.range (nc cA)).map (fun i => (ad i, en cA ad h i))
theorem wd_get {cA : Nat → ClassId} {ad : Nat → Nat} {h : PH} {i : Nat} (hi : i < nc cA) : (wd cA ad h)[i]? = some (ad i, en cA ad h i) := by
  simp [wd, hi]
theorem wd_lt {cA : Nat → ClassId} {ad : Nat → Nat} {h : PH} {i : Nat} {q : Nat × va_E} (hq : (wd cA ad h)[i]? = some q) : i < nc cA ∧ q = (ad i, en cA ad h i) := by
  have hl : i < (wd cA ad h).length := (List.getElem?_eq_some_iff.mp hq).1
  have hi : i < nc cA := by simpa [wd] using hl
  exact ⟨hi, (Option.some.inj (hq.symm.trans (wd_get hi)))⟩
theorem wd_set {cA : Nat → ClassId} {ad : Nat → Nat} {h h' : PH} {i : Nat} {e : va_E} (he : en cA ad h' i = e) (ho : ∀ a, a ≠ i → en cA ad h' a = en cA ad h a) : (wd cA ad h).set i (ad i, e) = wd cA ad h' := by
  apply List.ext_getElem?
  intro k
  by_cases hk : k < nc cA
  · by_cases hki : k = i
    · subst hki
      rw [List.getElem?_set_self (by simp [wd, hk]), wd_get hk, he]
    · rw [List.getElem?_set_ne (Ne.symm hki), wd_get hk, wd_get hk, ho k hki]
  · have h1 : ((wd cA ad h).set i (ad i, e))[k]? = none := by
      rw [List.getElem?_eq_none_iff]; simp [wd]; omega
    have h2 : (wd cA ad h')[k]? = none := by
      rw [List.getElem?_eq_none_iff]; simp [wd]; omega
    rw [h1, h2]
theorem kd_lt {i c : Nat} (h : (kd i).1 = c) (hc : c < 22) : i < NC := by
  by_cases hi : i < NC
  · exact hi
  · exfalso
    by_cases h2 : i = NC
    · subst h2
      have : (kd NC).1 = 22 := by decide +kernel
      omega
    · have h1 : kdL.length ≤ i := by
        have : kdL.length = NC + 1 := by decide +kernel
        omega
      have h2 : kd i = (99, 0) := by
        unfold kd
        rw [List.getD_eq_getElem?_getD, List.getElem?_eq_none_iff.mpr h1]
        rfl
      rw [h2] at h
      simp at h
      omega
theorem kd_lt2 {i c n : Nat} (h : kd i = (c, n)) (hc : c < 22) : i < NC := kd_lt (c := c) (by rw [h]) hc
theorem kc_lt {cA : Nat → ClassId} {i c : Nat} (h : (kd i).1 = c) (hc : c < 22) : i < nc cA := Nat.lt_of_lt_of_le (kd_lt h hc) nc_le
theorem kc_lt2 {cA : Nat → ClassId} {i c n : Nat} (h : kd i = (c, n)) (hc : c < 22) : i < nc cA := Nat.lt_of_lt_of_le (kd_lt2 h hc) nc_le
theorem fv_other {ad : Nat → Nat} {h h' : PH} {a j t : Nat} (h1 : h'.1 a j = h.1 a j) (h2 : h'.2 a j = h.2 a j) : fv ad h' a j t = fv ad h a j t := by
  unfold fv
  split <;> simp [h1, h2]
theorem en_other {cA : Nat → ClassId} {ad : Nat → Nat} {h h' : PH} {a : Nat} (h1 : ∀ j, h'.1 a j = h.1 a j) (h2 : ∀ j, h'.2 a j = h.2 a j) : en cA ad h' a = en cA ad h a := by
  have e1 : h'.1 a = h.1 a := funext h1
  have e2 : h'.2 a = h.2 a := funext h2
  unfold en enk
  rw [e1, e2]
  have e3 : fl ad h' a (ft (kd a).1) = fl ad h a (ft (kd a).1) := by
    unfold fl
    apply List.map_congr_left
    intro j _
    exact fv_other (h1 j) (h2 j)
  rw [e3]
theorem pI_ne {h : PH} {i j : Nat} {v : Int32} {a : Nat} (hne : a ≠ i) (b : Nat) : (pI h i j v).1 a b = h.1 a b := by simp [pI, hne]
theorem pL_ne {h : PH} {i j : Nat} {v : Int64} {a : Nat} (hne : a ≠ i) (b : Nat) : (pL h i j v).2 a b = h.2 a b := by simp [pL, hne]
theorem pI_oth {cA : Nat → ClassId} {ad : Nat → Nat} {h : PH} {i j : Nat} {v : Int32} : ∀ a, a ≠ i → en cA ad (pI h i j v) a = en cA ad h a := fun _ hne => en_other (pI_ne hne) (fun _ => rfl)
theorem pL_oth {cA : Nat → ClassId} {ad : Nat → Nat} {h : PH} {i j : Nat} {v : Int64} : ∀ a, a ≠ i → en cA ad (pL h i j v) a = en cA ad h a := fun _ hne => en_other (fun _ => rfl) (pL_ne hne)
theorem en_obj {cA : Nat → ClassId} {ad : Nat → Nat} {h : PH} {i c : Nat} (hk : (kd i).1 = c) (hc : c < 13) : en cA ad h i = .inr (c, fl ad h i (ft c)) := by
  subst hk
  unfold en enk
  rw [if_pos hc]
theorem en_ints {cA : Nat → ClassId} {ad : Nat → Nat} {h : PH} {i c n : Nat} (hk : kd i = (c, n)) (h1 : ¬ c < 13) (h2 : c < 16) : en cA ad h i = .inl (cA c, n, .inl (h.1 i)) := by
  unfold en enk
  rw [hk, if_neg h1, if_pos h2]
theorem en_longs {cA : Nat → ClassId} {ad : Nat → Nat} {h : PH} {i n : Nat} (hk : kd i = (16, n)) : en cA ad h i = .inl (cA 16, n, .inr (.inl (h.2 i))) := by
  unfold en enk
  rw [hk]
  rfl
theorem en_refs {cA : Nat → ClassId} {ad : Nat → Nat} {h : PH} {i c n : Nat} (hk : kd i = (c, n)) (h1 : 16 < c) (h2 : c < 22) : en cA ad h i = .inl (cA c, n, .inr (.inr (.inr (.inr (fun j => some (ad (rt i j))))))) := by
  unfold en enk
  rw [hk, if_neg (by show ¬ c < 13; omega), if_neg (by show ¬ c < 16; omega), if_neg (by show ¬ c = 16; omega), if_neg (by show ¬ c = 22; omega)]
theorem en_out {cA : Nat → ClassId} {ad : Nat → Nat} {h : PH} : en cA ad h NC = .inl (cA 16, 1, .inr (.inl (h.2 NC))) := by
  have hk : kd NC = (22, 1) := by decide +kernel
  unfold en enk
  rw [hk]
  rfl
theorem fl_pI {ad : Nat → Nat} {h : PH} {i k : Nat} {v : Int32} {ts : List Nat} (ht : ts.getD k 0 = 0) : (fl ad h i ts).set k (.int v) = fl ad (pI h i k v) i ts := by
  apply List.ext_getElem?
  intro j
  by_cases hj : j < ts.length
  · by_cases hjk : j = k
    · subst hjk
      rw [List.getElem?_set_self (by rw [fl_len]; exact hj), fl_get hj, ht]
      simp [fv, pI]
    · rw [List.getElem?_set_ne (Ne.symm hjk), fl_get hj, fl_get hj]
      have e9 : fv ad (pI h i k v) i j (ts.getD j 0) = fv ad h i j (ts.getD j 0) := fv_other (by simp [pI, hjk]) rfl
      rw [e9]
  · rw [List.getElem?_eq_none_iff.mpr (by simp [fl]; omega), List.getElem?_eq_none_iff.mpr (by simp [fl]; omega)]
theorem fl_pL {ad : Nat → Nat} {h : PH} {i k : Nat} {v : Int64} {ts : List Nat} (ht : ts.getD k 0 = 1) : (fl ad h i ts).set k (.long v) = fl ad (pL h i k v) i ts := by
  apply List.ext_getElem?
  intro j
  by_cases hj : j < ts.length
  · by_cases hjk : j = k
    · subst hjk
      rw [List.getElem?_set_self (by rw [fl_len]; exact hj), fl_get hj, ht]
      simp [fv, pL]
    · rw [List.getElem?_set_ne (Ne.symm hjk), fl_get hj, fl_get hj]
      have e9 : fv ad (pL h i k v) i j (ts.getD j 0) = fv ad h i j (ts.getD j 0) := fv_other rfl (by simp [pL, hjk])
      rw [e9]
  · rw [List.getElem?_eq_none_iff.mpr (by simp [fl]; omega), List.getElem?_eq_none_iff.mpr (by simp [fl]; omega)]
theorem upd_pI {h : PH} {i k : Nat} {v : Int32} : upd (h.1 i) k v = (pI h i k v).1 i := by
  funext j
  by_cases hj : j = k <;> simp [upd, pI, hj]
theorem upd_pL {h : PH} {i k : Nat} {v : Int64} : vp_updL (h.2 i) k v = (pL h i k v).2 i := by
  funext j
  by_cases hj : j = k <;> simp [vp_updL, pL, hj]
def tyl (cA : Nat → ClassId) : List (ClassId × FieldType) := [(cA 13, .int), (cA 14, .byte), (cA 15, .boolean), (cA 16, .long), (cA 17, .array .int), (cA 18, .array .long), (cA 19, .object "RainWishes$Tray"), (cA 20, .object "RainWishes$Sky"), (cA 21, .object "RainWishes$Book")]
theorem wd_D {cA : Nat → ClassId} {ad : Nat → Nat} {h : PH} {A : Nat → Prop} (h1 : ∀ i j, i < nc cA → j < nc cA → ad i = ad j → i = j) (h2 : ∀ i, i < nc cA → A (ad i)) : va_D A (wd cA ad h) := by
  refine ⟨fun i j p q hp hq e => ?_, fun k q hq => ?_⟩
  · obtain ⟨a1, rfl⟩ := wd_lt hp
    obtain ⟨a2, rfl⟩ := wd_lt hq
    exact h1 i j a1 a2 e
  · obtain ⟨a1, rfl⟩ := wd_lt hq
    exact h2 k a1
