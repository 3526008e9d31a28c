set_option maxRecDepth 20000 in
theorem lk_150 : Cond.classLink RL 8 "RainWishes" ∈ WSG := lkT1 30 rfl rfl
set_option maxRecDepth 20000 in
theorem lk_151 : Cond.instantiable RX11 16 ∈ WSG := lkT1 31 rfl rfl
set_option maxRecDepth 20000 in
theorem lk_152 : Cond.methodLink RL 129 yX11_init ∈ WSG := lkT1 32 rfl rfl
set_option maxRecDepth 20000 in
theorem lk_153 : Cond.instanceMethod yX11_init ∈ WSG := lkT1 33 rfl rfl
set_option maxRecDepth 20000 in
theorem lk_154 : Cond.code yX11_init cX11_init 2 none ∈ WSG := lkT1 34 rfl rfl
set_option maxRecDepth 20000 in
theorem lk_1653 : Cond.classLink RL 130 "RainWishesModel" ∈ WSG := lkT7 93 rfl rfl
set_option maxRecDepth 20000 in
theorem lk_1654 : Cond.instantiable RX12 39 ∈ WSG := lkT7 94 rfl rfl
set_option maxRecDepth 20000 in
theorem lk_1655 : Cond.methodLink RL 132 yX12_init ∈ WSG := lkT7 95 rfl rfl
set_option maxRecDepth 20000 in
theorem lk_1656 : Cond.instanceMethod yX12_init ∈ WSG := lkT7 96 rfl rfl
set_option maxRecDepth 20000 in
theorem lk_1657 : Cond.code yX12_init cX12_init 1 none ∈ WSG := lkT7 97 rfl rfl
theorem arrV_congr {c : ClassId} {N : Nat} {f g : Nat → Value} (h : ∀ j, j < N → f j = g j) : arrV c N f = arrV c N g := by
  unfold arrV
  congr 1
  apply Array.ext
  · simp
  · intro i h1 h2
    simp only [Array.getElem_ofFn]
    exact h i (by simpa using h1)
theorem str_of {args : Array Value} {s : State} {tm : Term} {len : Nat} {byt : List Int32} {A : Nat → Prop} (hN : len < 2 ^ 31) (hex : (Cond.exactly tm "java/lang/String").before args s = true) (hco : (Cond.eq (.field tm "java/lang/String" "coder" "B") (.int 0)).before args s = true) (har : (Cond.arrayOf (.field tm "java/lang/String" "value" "[B") .byte).before args s = true) (hle : (Cond.eq (.length (.field tm "java/lang/String" "value" "[B")) (.int (Int32.ofNat len))).before args s = true)
    (hel : ∀ j : Nat, j < len → (Cond.eq (.elem (.field tm "java/lang/String" "value" "[B") (.int (Int32.ofNat j))) (.int (byt.getD j 0))).before args s = true) (hA : ∀ a : Nat, a < s.heap.size → ¬ A a) :
    ∃ q : Nat × Nat, tm.eval args s none [] s = some (.ref q.1) ∧ va_O "java/lang/String" q.1 A s s.heap ∧ va_OF "java/lang/String" "coder" "B" (.int 0) q.1 A s s.heap ∧ va_OF "java/lang/String" "value" "[B" (.ref q.2) q.1 A s s.heap ∧ va_T .byte q.2 len (fun j => .int (byt.getD j 0)) A s s.heap := by
  obtain ⟨a, c, cA, kA, q1, q2, q3, q4, q5, q6, -⟩ := Cond.exactly_spec (args := args) (first := s) (o := none) (s := s) (idx := []) (t := tm) (cls := "java/lang/String") hex
  obtain ⟨t, ht, hT⟩ := va_Tof (f := fun j => .int (byt.getD j 0)) (A := A) hN har (va_eqt hle) (fun j hj => va_eqt (hel j hj)) hA
  exact ⟨(a, t), q1, ⟨cA, q3, q5, by rw [q6]; exact q2, hA a (Array.getElem?_eq_some_iff.mp q3).1⟩, vk_OFof q1 (va_eqt hco) hA, vk_OFof q1 ht hA, hT⟩
abbrev StrOk (e : String × Nat × String × Nat) (args : Array Value) (s : State) (A : Nat → Prop) (q : Nat × Nat) : Prop := (Term.string e.1 e.2.1).eval args s none [] s = some (.ref q.1) ∧ va_O "java/lang/String" q.1 A s s.heap ∧ va_OF "java/lang/String" "coder" "B" (.int 0) q.1 A s s.heap ∧ va_OF "java/lang/String" "value" "[B" (.ref q.2) q.1 A s s.heap ∧ va_T .byte q.2 (slen e.2.2.2) (fun j => .int ((sb e.2.2.2).getD j 0)) A s s.heap
def nfl : List Cond := flatC (Jvm.Cond.and given_1 narrow_1)
set_option maxRecDepth 20000 in
theorem nf_4 : (Jvm.Cond.isRef (Jvm.Term.static "java/lang/Throwable" "UNASSIGNED_STACK" "[Ljava/lang/StackTraceElement;")) ∈ nfl := List.mem_of_getElem? (i := 4) (by decide +kernel)
set_option maxRecDepth 20000 in
theorem nf_5 : (Jvm.Cond.isRef (Jvm.Term.static "java/lang/Throwable" "SUPPRESSED_SENTINEL" "Ljava/util/List;")) ∈ nfl := List.mem_of_getElem? (i := 5) (by decide +kernel)
set_option maxRecDepth 20000 in
theorem nf_6 : (Jvm.Cond.eq (Jvm.Term.static "java/lang/String" "COMPACT_STRINGS" "Z") (Jvm.Term.int (1 : Int32))) ∈ nfl := List.mem_of_getElem? (i := 6) (by decide +kernel)
set_option maxRecDepth 20000 in
theorem nf_7 : (Jvm.Cond.isRef (Jvm.Term.static "jdk/internal/util/Preconditions" "SIOOBE_FORMATTER" "Ljava/util/function/BiFunction;")) ∈ nfl := List.mem_of_getElem? (i := 7) (by decide +kernel)
set_option maxRecDepth 20000 in
theorem nf_12 : (Jvm.Cond.arrayOf (Jvm.Term.static "RainWishes$Parser" "TIGHT" "[I") Jvm.ClassFile.FieldType.int) ∈ nfl := List.mem_of_getElem? (i := 12) (by decide +kernel)
set_option maxRecDepth 20000 in
theorem nf_13 : (Jvm.Cond.eq (Jvm.Term.length (Jvm.Term.static "RainWishes$Parser" "TIGHT" "[I")) (Jvm.Term.int (11 : Int32))) ∈ nfl := List.mem_of_getElem? (i := 13) (by decide +kernel)
set_option maxRecDepth 20000 in
theorem nf_14 : (Jvm.Cond.eq (Jvm.Term.elem (Jvm.Term.static "RainWishes$Parser" "TIGHT" "[I") (Jvm.Term.int (0 : Int32))) (Jvm.Term.int (0 : Int32))) ∈ nfl := List.mem_of_getElem? (i := 14) (by decide +kernel)
set_option maxRecDepth 20000 in
theorem nf_15 : (Jvm.Cond.eq (Jvm.Term.elem (Jvm.Term.static "RainWishes$Parser" "TIGHT" "[I") (Jvm.Term.int (1 : Int32))) (Jvm.Term.int (0 : Int32))) ∈ nfl := List.mem_of_getElem? (i := 15) (by decide +kernel)
set_option maxRecDepth 20000 in
theorem nf_16 : (Jvm.Cond.eq (Jvm.Term.elem (Jvm.Term.static "RainWishes$Parser" "TIGHT" "[I") (Jvm.Term.int (2 : Int32))) (Jvm.Term.int (1 : Int32))) ∈ nfl := List.mem_of_getElem? (i := 16) (by decide +kernel)
set_option maxRecDepth 20000 in
theorem nf_17 : (Jvm.Cond.eq (Jvm.Term.elem (Jvm.Term.static "RainWishes$Parser" "TIGHT" "[I") (Jvm.Term.int (3 : Int32))) (Jvm.Term.int (2 : Int32))) ∈ nfl := List.mem_of_getElem? (i := 17) (by decide +kernel)
set_option maxRecDepth 20000 in
theorem nf_18 : (Jvm.Cond.eq (Jvm.Term.elem (Jvm.Term.static "RainWishes$Parser" "TIGHT" "[I") (Jvm.Term.int (4 : Int32))) (Jvm.Term.int (3 : Int32))) ∈ nfl := List.mem_of_getElem? (i := 18) (by decide +kernel)
set_option maxRecDepth 20000 in
theorem nf_19 : (Jvm.Cond.eq (Jvm.Term.elem (Jvm.Term.static "RainWishes$Parser" "TIGHT" "[I") (Jvm.Term.int (5 : Int32))) (Jvm.Term.int (4 : Int32))) ∈ nfl := List.mem_of_getElem? (i := 19) (by decide +kernel)
set_option maxRecDepth 20000 in
theorem nf_20 : (Jvm.Cond.eq (Jvm.Term.elem (Jvm.Term.static "RainWishes$Parser" "TIGHT" "[I") (Jvm.Term.int (6 : Int32))) (Jvm.Term.int (4 : Int32))) ∈ nfl := List.mem_of_getElem? (i := 20) (by decide +kernel)
set_option maxRecDepth 20000 in
theorem nf_21 : (Jvm.Cond.eq (Jvm.Term.elem (Jvm.Term.static "RainWishes$Parser" "TIGHT" "[I") (Jvm.Term.int (7 : Int32))) (Jvm.Term.int (4 : Int32))) ∈ nfl := List.mem_of_getElem? (i := 21) (by decide +kernel)
set_option maxRecDepth 20000 in
theorem nf_22 : (Jvm.Cond.eq (Jvm.Term.elem (Jvm.Term.static "RainWishes$Parser" "TIGHT" "[I") (Jvm.Term.int (8 : Int32))) (Jvm.Term.int (5 : Int32))) ∈ nfl := List.mem_of_getElem? (i := 22) (by decide +kernel)
set_option maxRecDepth 20000 in
theorem nf_23 : (Jvm.Cond.eq (Jvm.Term.elem (Jvm.Term.static "RainWishes$Parser" "TIGHT" "[I") (Jvm.Term.int (9 : Int32))) (Jvm.Term.int (5 : Int32))) ∈ nfl := List.mem_of_getElem? (i := 23) (by decide +kernel)
set_option maxRecDepth 20000 in
theorem nf_24 : (Jvm.Cond.eq (Jvm.Term.elem (Jvm.Term.static "RainWishes$Parser" "TIGHT" "[I") (Jvm.Term.int (10 : Int32))) (Jvm.Term.int (6 : Int32))) ∈ nfl := List.mem_of_getElem? (i := 24) (by decide +kernel)
set_option maxRecDepth 20000 in
theorem nf_38 : (Jvm.Cond.not (Jvm.Cond.castable "java/util/NoSuchElementException" "java/lang/IllegalArgumentException")) ∈ nfl := List.mem_of_getElem? (i := 38) (by decide +kernel)
set_option maxRecDepth 20000 in
theorem nf_39 : (Jvm.Cond.not (Jvm.Cond.castable "java/lang/IllegalStateException" "java/lang/IllegalArgumentException")) ∈ nfl := List.mem_of_getElem? (i := 39) (by decide +kernel)
set_option maxRecDepth 20000 in
theorem nf_40 : (Jvm.Cond.not (Jvm.Cond.castable "java/lang/IndexOutOfBoundsException" "java/lang/IllegalArgumentException")) ∈ nfl := List.mem_of_getElem? (i := 40) (by decide +kernel)
set_option maxRecDepth 20000 in
theorem nf_54 : (Jvm.Cond.not (Jvm.Cond.castable "java/lang/IllegalArgumentException" "java/util/NoSuchElementException")) ∈ nfl := List.mem_of_getElem? (i := 54) (by decide +kernel)
set_option maxRecDepth 20000 in
theorem nf_55 : (Jvm.Cond.not (Jvm.Cond.castable "java/lang/IllegalStateException" "java/util/NoSuchElementException")) ∈ nfl := List.mem_of_getElem? (i := 55) (by decide +kernel)
set_option maxRecDepth 20000 in
theorem nf_56 : (Jvm.Cond.not (Jvm.Cond.castable "java/lang/IndexOutOfBoundsException" "java/util/NoSuchElementException")) ∈ nfl := List.mem_of_getElem? (i := 56) (by decide +kernel)
set_option maxRecDepth 20000 in
theorem nf_70 : (Jvm.Cond.not (Jvm.Cond.castable "java/lang/IllegalArgumentException" "java/lang/IllegalStateException")) ∈ nfl := List.mem_of_getElem? (i := 70) (by decide +kernel)
set_option maxRecDepth 20000 in
theorem nf_71 : (Jvm.Cond.not (Jvm.Cond.castable "java/util/NoSuchElementException" "java/lang/IllegalStateException")) ∈ nfl := List.mem_of_getElem? (i := 71) (by decide +kernel)
set_option maxRecDepth 20000 in
theorem nf_72 : (Jvm.Cond.not (Jvm.Cond.castable "java/lang/IndexOutOfBoundsException" "java/lang/IllegalStateException")) ∈ nfl := List.mem_of_getElem? (i := 72) (by decide +kernel)
set_option maxRecDepth 20000 in
theorem nf_86 : (Jvm.Cond.not (Jvm.Cond.castable "java/lang/IllegalArgumentException" "java/lang/IndexOutOfBoundsException")) ∈ nfl := List.mem_of_getElem? (i := 86) (by decide +kernel)
set_option maxRecDepth 20000 in
theorem nf_87 : (Jvm.Cond.not (Jvm.Cond.castable "java/util/NoSuchElementException" "java/lang/IndexOutOfBoundsException")) ∈ nfl := List.mem_of_getElem? (i := 87) (by decide +kernel)
set_option maxRecDepth 20000 in
theorem nf_88 : (Jvm.Cond.not (Jvm.Cond.castable "java/lang/IllegalStateException" "java/lang/IndexOutOfBoundsException")) ∈ nfl := List.mem_of_getElem? (i := 88) (by decide +kernel)
set_option maxRecDepth 20000 in
theorem nf_143 : (Jvm.Cond.exactly (Jvm.Term.string "RainWishes" (118 : Nat)) "java/lang/String") ∈ nfl := List.mem_of_getElem? (i := 143) (by decide +kernel)
set_option maxRecDepth 20000 in
theorem nf_144 : (Jvm.Cond.eq (Jvm.Term.field (Jvm.Term.string "RainWishes" (118 : Nat)) "java/lang/String" "coder" "B") (Jvm.Term.int (0 : Int32))) ∈ nfl := List.mem_of_getElem? (i := 144) (by decide +kernel)
set_option maxRecDepth 20000 in
theorem nf_145 : (Jvm.Cond.arrayOf (Jvm.Term.field (Jvm.Term.string "RainWishes" (118 : Nat)) "java/lang/String" "value" "[B") Jvm.ClassFile.FieldType.byte) ∈ nfl := List.mem_of_getElem? (i := 145) (by decide +kernel)
set_option maxRecDepth 20000 in
theorem nf_146 : (Jvm.Cond.eq (Jvm.Term.length (Jvm.Term.field (Jvm.Term.string "RainWishes" (118 : Nat)) "java/lang/String" "value" "[B")) (Jvm.Term.int (29 : Int32))) ∈ nfl := List.mem_of_getElem? (i := 146) (by decide +kernel)
set_option maxRecDepth 20000 in
theorem nf_147 : (Jvm.Cond.eq (Jvm.Term.elem (Jvm.Term.field (Jvm.Term.string "RainWishes" (118 : Nat)) "java/lang/String" "value" "[B") (Jvm.Term.int (0 : Int32))) (Jvm.Term.int (110 : Int32))) ∈ nfl := List.mem_of_getElem? (i := 147) (by decide +kernel)
set_option maxRecDepth 20000 in
theorem nf_148 : (Jvm.Cond.eq (Jvm.Term.elem (Jvm.Term.field (Jvm.Term.string "RainWishes" (118 : Nat)) "java/lang/String" "value" "[B") (Jvm.Term.int (1 : Int32))) (Jvm.Term.int (111 : Int32))) ∈ nfl := List.mem_of_getElem? (i := 148) (by decide +kernel)
set_option maxRecDepth 20000 in
theorem nf_149 : (Jvm.Cond.eq (Jvm.Term.elem (Jvm.Term.field (Jvm.Term.string "RainWishes" (118 : Nat)) "java/lang/String" "value" "[B") (Jvm.Term.int (2 : Int32))) (Jvm.Term.int (116 : Int32))) ∈ nfl := List.mem_of_getElem? (i := 149) (by decide +kernel)
set_option maxRecDepth 20000 in
theorem nf_150 : (Jvm.Cond.eq (Jvm.Term.elem (Jvm.Term.field (Jvm.Term.string "RainWishes" (118 : Nat)) "java/lang/String" "value" "[B") (Jvm.Term.int (3 : Int32))) (Jvm.Term.int (32 : Int32))) ∈ nfl := List.mem_of_getElem? (i := 150) (by decide +kernel)
set_option maxRecDepth 20000 in
theorem nf_151 : (Jvm.Cond.eq (Jvm.Term.elem (Jvm.Term.field (Jvm.Term.string "RainWishes" (118 : Nat)) "java/lang/String" "value" "[B") (Jvm.Term.int (4 : Int32))) (Jvm.Term.int (115 : Int32))) ∈ nfl := List.mem_of_getElem? (i := 151) (by decide +kernel)
set_option maxRecDepth 20000 in
theorem nf_152 : (Jvm.Cond.eq (Jvm.Term.elem (Jvm.Term.field (Jvm.Term.string "RainWishes" (118 : Nat)) "java/lang/String" "value" "[B") (Jvm.Term.int (5 : Int32))) (Jvm.Term.int (111 : Int32))) ∈ nfl := List.mem_of_getElem? (i := 152) (by decide +kernel)
set_option maxRecDepth 20000 in
theorem nf_153 : (Jvm.Cond.eq (Jvm.Term.elem (Jvm.Term.field (Jvm.Term.string "RainWishes" (118 : Nat)) "java/lang/String" "value" "[B") (Jvm.Term.int (6 : Int32))) (Jvm.Term.int (32 : Int32))) ∈ nfl := List.mem_of_getElem? (i := 153) (by decide +kernel)
set_option maxRecDepth 20000 in
theorem nf_154 : (Jvm.Cond.eq (Jvm.Term.elem (Jvm.Term.field (Jvm.Term.string "RainWishes" (118 : Nat)) "java/lang/String" "value" "[B") (Jvm.Term.int (7 : Int32))) (Jvm.Term.int (109 : Int32))) ∈ nfl := List.mem_of_getElem? (i := 154) (by decide +kernel)
set_option maxRecDepth 20000 in
theorem nf_155 : (Jvm.Cond.eq (Jvm.Term.elem (Jvm.Term.field (Jvm.Term.string "RainWishes" (118 : Nat)) "java/lang/String" "value" "[B") (Jvm.Term.int (8 : Int32))) (Jvm.Term.int (97 : Int32))) ∈ nfl := List.mem_of_getElem? (i := 155) (by decide +kernel)
set_option maxRecDepth 20000 in
theorem nf_156 : (Jvm.Cond.eq (Jvm.Term.elem (Jvm.Term.field (Jvm.Term.string "RainWishes" (118 : Nat)) "java/lang/String" "value" "[B") (Jvm.Term.int (9 : Int32))) (Jvm.Term.int (110 : Int32))) ∈ nfl := List.mem_of_getElem? (i := 156) (by decide +kernel)
set_option maxRecDepth 20000 in
theorem nf_157 : (Jvm.Cond.eq (Jvm.Term.elem (Jvm.Term.field (Jvm.Term.string "RainWishes" (118 : Nat)) "java/lang/String" "value" "[B") (Jvm.Term.int (10 : Int32))) (Jvm.Term.int (121 : Int32))) ∈ nfl := List.mem_of_getElem? (i := 157) (by decide +kernel)
set_option maxRecDepth 20000 in
theorem nf_158 : (Jvm.Cond.eq (Jvm.Term.elem (Jvm.Term.field (Jvm.Term.string "RainWishes" (118 : Nat)) "java/lang/String" "value" "[B") (Jvm.Term.int (11 : Int32))) (Jvm.Term.int (32 : Int32))) ∈ nfl := List.mem_of_getElem? (i := 158) (by decide +kernel)
set_option maxRecDepth 20000 in
theorem nf_159 : (Jvm.Cond.eq (Jvm.Term.elem (Jvm.Term.field (Jvm.Term.string "RainWishes" (118 : Nat)) "java/lang/String" "value" "[B") (Jvm.Term.int (12 : Int32))) (Jvm.Term.int (98 : Int32))) ∈ nfl := List.mem_of_getElem? (i := 159) (by decide +kernel)
set_option maxRecDepth 20000 in
theorem nf_160 : (Jvm.Cond.eq (Jvm.Term.elem (Jvm.Term.field (Jvm.Term.string "RainWishes" (118 : Nat)) "java/lang/String" "value" "[B") (Jvm.Term.int (13 : Int32))) (Jvm.Term.int (121 : Int32))) ∈ nfl := List.mem_of_getElem? (i := 160) (by decide +kernel)
set_option maxRecDepth 20000 in
theorem nf_161 : (Jvm.Cond.eq (Jvm.Term.elem (Jvm.Term.field (Jvm.Term.string "RainWishes" (118 : Nat)) "java/lang/String" "value" "[B") (Jvm.Term.int (14 : Int32))) (Jvm.Term.int (116 : Int32))) ∈ nfl := List.mem_of_getElem? (i := 161) (by decide +kernel)
set_option maxRecDepth 20000 in
theorem nf_162 : (Jvm.Cond.eq (Jvm.Term.elem (Jvm.Term.field (Jvm.Term.string "RainWishes" (118 : Nat)) "java/lang/String" "value" "[B") (Jvm.Term.int (15 : Int32))) (Jvm.Term.int (101 : Int32))) ∈ nfl := List.mem_of_getElem? (i := 162) (by decide +kernel)
set_option maxRecDepth 20000 in
theorem nf_163 : (Jvm.Cond.eq (Jvm.Term.elem (Jvm.Term.field (Jvm.Term.string "RainWishes" (118 : Nat)) "java/lang/String" "value" "[B") (Jvm.Term.int (16 : Int32))) (Jvm.Term.int (115 : Int32))) ∈ nfl := List.mem_of_getElem? (i := 163) (by decide +kernel)
set_option maxRecDepth 20000 in
theorem nf_164 : (Jvm.Cond.eq (Jvm.Term.elem (Jvm.Term.field (Jvm.Term.string "RainWishes" (118 : Nat)) "java/lang/String" "value" "[B") (Jvm.Term.int (17 : Int32))) (Jvm.Term.int (32 : Int32))) ∈ nfl := List.mem_of_getElem? (i := 164) (by decide +kernel)
set_option maxRecDepth 20000 in
theorem nf_165 : (Jvm.Cond.eq (Jvm.Term.elem (Jvm.Term.field (Jvm.Term.string "RainWishes" (118 : Nat)) "java/lang/String" "value" "[B") (Jvm.Term.int (18 : Int32))) (Jvm.Term.int (111 : Int32))) ∈ nfl := List.mem_of_getElem? (i := 165) (by decide +kernel)
set_option maxRecDepth 20000 in
theorem nf_166 : (Jvm.Cond.eq (Jvm.Term.elem (Jvm.Term.field (Jvm.Term.string "RainWishes" (118 : Nat)) "java/lang/String" "value" "[B") (Jvm.Term.int (19 : Int32))) (Jvm.Term.int (110 : Int32))) ∈ nfl := List.mem_of_getElem? (i := 166) (by decide +kernel)
set_option maxRecDepth 20000 in
theorem nf_167 : (Jvm.Cond.eq (Jvm.Term.elem (Jvm.Term.field (Jvm.Term.string "RainWishes" (118 : Nat)) "java/lang/String" "value" "[B") (Jvm.Term.int (20 : Int32))) (Jvm.Term.int (32 : Int32))) ∈ nfl := List.mem_of_getElem? (i := 167) (by decide +kernel)
set_option maxRecDepth 20000 in
theorem nf_168 : (Jvm.Cond.eq (Jvm.Term.elem (Jvm.Term.field (Jvm.Term.string "RainWishes" (118 : Nat)) "java/lang/String" "value" "[B") (Jvm.Term.int (21 : Int32))) (Jvm.Term.int (116 : Int32))) ∈ nfl := List.mem_of_getElem? (i := 168) (by decide +kernel)
set_option maxRecDepth 20000 in
theorem nf_169 : (Jvm.Cond.eq (Jvm.Term.elem (Jvm.Term.field (Jvm.Term.string "RainWishes" (118 : Nat)) "java/lang/String" "value" "[B") (Jvm.Term.int (22 : Int32))) (Jvm.Term.int (104 : Int32))) ∈ nfl := List.mem_of_getElem? (i := 169) (by decide +kernel)
set_option maxRecDepth 20000 in
theorem nf_170 : (Jvm.Cond.eq (Jvm.Term.elem (Jvm.Term.field (Jvm.Term.string "RainWishes" (118 : Nat)) "java/lang/String" "value" "[B") (Jvm.Term.int (23 : Int32))) (Jvm.Term.int (101 : Int32))) ∈ nfl := List.mem_of_getElem? (i := 170) (by decide +kernel)
set_option maxRecDepth 20000 in
theorem nf_171 : (Jvm.Cond.eq (Jvm.Term.elem (Jvm.Term.field (Jvm.Term.string "RainWishes" (118 : Nat)) "java/lang/String" "value" "[B") (Jvm.Term.int (24 : Int32))) (Jvm.Term.int (32 : Int32))) ∈ nfl := List.mem_of_getElem? (i := 171) (by decide +kernel)
set_option maxRecDepth 20000 in
theorem nf_172 : (Jvm.Cond.eq (Jvm.Term.elem (Jvm.Term.field (Jvm.Term.string "RainWishes" (118 : Nat)) "java/lang/String" "value" "[B") (Jvm.Term.int (25 : Int32))) (Jvm.Term.int (116 : Int32))) ∈ nfl := List.mem_of_getElem? (i := 172) (by decide +kernel)
set_option maxRecDepth 20000 in
theorem nf_173 : (Jvm.Cond.eq (Jvm.Term.elem (Jvm.Term.field (Jvm.Term.string "RainWishes" (118 : Nat)) "java/lang/String" "value" "[B") (Jvm.Term.int (26 : Int32))) (Jvm.Term.int (97 : Int32))) ∈ nfl := List.mem_of_getElem? (i := 173) (by decide +kernel)
set_option maxRecDepth 20000 in
theorem nf_174 : (Jvm.Cond.eq (Jvm.Term.elem (Jvm.Term.field (Jvm.Term.string "RainWishes" (118 : Nat)) "java/lang/String" "value" "[B") (Jvm.Term.int (27 : Int32))) (Jvm.Term.int (112 : Int32))) ∈ nfl := List.mem_of_getElem? (i := 174) (by decide +kernel)
set_option maxRecDepth 20000 in
theorem nf_175 : (Jvm.Cond.eq (Jvm.Term.elem (Jvm.Term.field (Jvm.Term.string "RainWishes" (118 : Nat)) "java/lang/String" "value" "[B") (Jvm.Term.int (28 : Int32))) (Jvm.Term.int (101 : Int32))) ∈ nfl := List.mem_of_getElem? (i := 175) (by decide +kernel)
set_option maxRecDepth 20000 in
theorem nf_176 : (Jvm.Cond.exactly (Jvm.Term.string "RainWishes$Tokens" (33 : Nat)) "java/lang/String") ∈ nfl := List.mem_of_getElem? (i := 176) (by decide +kernel)
set_option maxRecDepth 20000 in
theorem nf_177 : (Jvm.Cond.eq (Jvm.Term.field (Jvm.Term.string "RainWishes$Tokens" (33 : Nat)) "java/lang/String" "coder" "B") (Jvm.Term.int (0 : Int32))) ∈ nfl := List.mem_of_getElem? (i := 177) (by decide +kernel)
set_option maxRecDepth 20000 in
theorem nf_178 : (Jvm.Cond.arrayOf (Jvm.Term.field (Jvm.Term.string "RainWishes$Tokens" (33 : Nat)) "java/lang/String" "value" "[B") Jvm.ClassFile.FieldType.byte) ∈ nfl := List.mem_of_getElem? (i := 178) (by decide +kernel)
set_option maxRecDepth 20000 in
theorem nf_179 : (Jvm.Cond.eq (Jvm.Term.length (Jvm.Term.field (Jvm.Term.string "RainWishes$Tokens" (33 : Nat)) "java/lang/String" "value" "[B")) (Jvm.Term.int (12 : Int32))) ∈ nfl := List.mem_of_getElem? (i := 179) (by decide +kernel)
set_option maxRecDepth 20000 in
theorem nf_180 : (Jvm.Cond.eq (Jvm.Term.elem (Jvm.Term.field (Jvm.Term.string "RainWishes$Tokens" (33 : Nat)) "java/lang/String" "value" "[B") (Jvm.Term.int (0 : Int32))) (Jvm.Term.int (59 : Int32))) ∈ nfl := List.mem_of_getElem? (i := 180) (by decide +kernel)
set_option maxRecDepth 20000 in
theorem nf_181 : (Jvm.Cond.eq (Jvm.Term.elem (Jvm.Term.field (Jvm.Term.string "RainWishes$Tokens" (33 : Nat)) "java/lang/String" "value" "[B") (Jvm.Term.int (1 : Int32))) (Jvm.Term.int (58 : Int32))) ∈ nfl := List.mem_of_getElem? (i := 181) (by decide +kernel)
set_option maxRecDepth 20000 in
theorem nf_182 : (Jvm.Cond.eq (Jvm.Term.elem (Jvm.Term.field (Jvm.Term.string "RainWishes$Tokens" (33 : Nat)) "java/lang/String" "value" "[B") (Jvm.Term.int (2 : Int32))) (Jvm.Term.int (43 : Int32))) ∈ nfl := List.mem_of_getElem? (i := 182) (by decide +kernel)
set_option maxRecDepth 20000 in
theorem nf_183 : (Jvm.Cond.eq (Jvm.Term.elem (Jvm.Term.field (Jvm.Term.string "RainWishes$Tokens" (33 : Nat)) "java/lang/String" "value" "[B") (Jvm.Term.int (3 : Int32))) (Jvm.Term.int (45 : Int32))) ∈ nfl := List.mem_of_getElem? (i := 183) (by decide +kernel)
set_option maxRecDepth 20000 in
theorem nf_184 : (Jvm.Cond.eq (Jvm.Term.elem (Jvm.Term.field (Jvm.Term.string "RainWishes$Tokens" (33 : Nat)) "java/lang/String" "value" "[B") (Jvm.Term.int (4 : Int32))) (Jvm.Term.int (42 : Int32))) ∈ nfl := List.mem_of_getElem? (i := 184) (by decide +kernel)
set_option maxRecDepth 20000 in
theorem nf_185 : (Jvm.Cond.eq (Jvm.Term.elem (Jvm.Term.field (Jvm.Term.string "RainWishes$Tokens" (33 : Nat)) "java/lang/String" "value" "[B") (Jvm.Term.int (5 : Int32))) (Jvm.Term.int (40 : Int32))) ∈ nfl := List.mem_of_getElem? (i := 185) (by decide +kernel)
set_option maxRecDepth 20000 in
theorem nf_186 : (Jvm.Cond.eq (Jvm.Term.elem (Jvm.Term.field (Jvm.Term.string "RainWishes$Tokens" (33 : Nat)) "java/lang/String" "value" "[B") (Jvm.Term.int (6 : Int32))) (Jvm.Term.int (41 : Int32))) ∈ nfl := List.mem_of_getElem? (i := 186) (by decide +kernel)
set_option maxRecDepth 20000 in
theorem nf_187 : (Jvm.Cond.eq (Jvm.Term.elem (Jvm.Term.field (Jvm.Term.string "RainWishes$Tokens" (33 : Nat)) "java/lang/String" "value" "[B") (Jvm.Term.int (7 : Int32))) (Jvm.Term.int (91 : Int32))) ∈ nfl := List.mem_of_getElem? (i := 187) (by decide +kernel)
set_option maxRecDepth 20000 in
theorem nf_188 : (Jvm.Cond.eq (Jvm.Term.elem (Jvm.Term.field (Jvm.Term.string "RainWishes$Tokens" (33 : Nat)) "java/lang/String" "value" "[B") (Jvm.Term.int (8 : Int32))) (Jvm.Term.int (93 : Int32))) ∈ nfl := List.mem_of_getElem? (i := 188) (by decide +kernel)
set_option maxRecDepth 20000 in
theorem nf_189 : (Jvm.Cond.eq (Jvm.Term.elem (Jvm.Term.field (Jvm.Term.string "RainWishes$Tokens" (33 : Nat)) "java/lang/String" "value" "[B") (Jvm.Term.int (9 : Int32))) (Jvm.Term.int (61 : Int32))) ∈ nfl := List.mem_of_getElem? (i := 189) (by decide +kernel)
set_option maxRecDepth 20000 in
theorem nf_190 : (Jvm.Cond.eq (Jvm.Term.elem (Jvm.Term.field (Jvm.Term.string "RainWishes$Tokens" (33 : Nat)) "java/lang/String" "value" "[B") (Jvm.Term.int (10 : Int32))) (Jvm.Term.int (60 : Int32))) ∈ nfl := List.mem_of_getElem? (i := 190) (by decide +kernel)
set_option maxRecDepth 20000 in
theorem nf_191 : (Jvm.Cond.eq (Jvm.Term.elem (Jvm.Term.field (Jvm.Term.string "RainWishes$Tokens" (33 : Nat)) "java/lang/String" "value" "[B") (Jvm.Term.int (11 : Int32))) (Jvm.Term.int (62 : Int32))) ∈ nfl := List.mem_of_getElem? (i := 191) (by decide +kernel)
set_option maxRecDepth 20000 in
theorem nf_192 : (Jvm.Cond.exactly (Jvm.Term.string "RainWishes$Parser" (87 : Nat)) "java/lang/String") ∈ nfl := List.mem_of_getElem? (i := 192) (by decide +kernel)
set_option maxRecDepth 20000 in
theorem nf_193 : (Jvm.Cond.eq (Jvm.Term.field (Jvm.Term.string "RainWishes$Parser" (87 : Nat)) "java/lang/String" "coder" "B") (Jvm.Term.int (0 : Int32))) ∈ nfl := List.mem_of_getElem? (i := 193) (by decide +kernel)
set_option maxRecDepth 20000 in
theorem nf_194 : (Jvm.Cond.arrayOf (Jvm.Term.field (Jvm.Term.string "RainWishes$Parser" (87 : Nat)) "java/lang/String" "value" "[B") Jvm.ClassFile.FieldType.byte) ∈ nfl := List.mem_of_getElem? (i := 194) (by decide +kernel)
set_option maxRecDepth 20000 in
theorem nf_195 : (Jvm.Cond.eq (Jvm.Term.length (Jvm.Term.field (Jvm.Term.string "RainWishes$Parser" (87 : Nat)) "java/lang/String" "value" "[B")) (Jvm.Term.int (3 : Int32))) ∈ nfl := List.mem_of_getElem? (i := 195) (by decide +kernel)
set_option maxRecDepth 20000 in
theorem nf_196 : (Jvm.Cond.eq (Jvm.Term.elem (Jvm.Term.field (Jvm.Term.string "RainWishes$Parser" (87 : Nat)) "java/lang/String" "value" "[B") (Jvm.Term.int (0 : Int32))) (Jvm.Term.int (115 : Int32))) ∈ nfl := List.mem_of_getElem? (i := 196) (by decide +kernel)
set_option maxRecDepth 20000 in
theorem nf_197 : (Jvm.Cond.eq (Jvm.Term.elem (Jvm.Term.field (Jvm.Term.string "RainWishes$Parser" (87 : Nat)) "java/lang/String" "value" "[B") (Jvm.Term.int (1 : Int32))) (Jvm.Term.int (107 : Int32))) ∈ nfl := List.mem_of_getElem? (i := 197) (by decide +kernel)
set_option maxRecDepth 20000 in
theorem nf_198 : (Jvm.Cond.eq (Jvm.Term.elem (Jvm.Term.field (Jvm.Term.string "RainWishes$Parser" (87 : Nat)) "java/lang/String" "value" "[B") (Jvm.Term.int (2 : Int32))) (Jvm.Term.int (121 : Int32))) ∈ nfl := List.mem_of_getElem? (i := 198) (by decide +kernel)
set_option maxRecDepth 20000 in
theorem nf_199 : (Jvm.Cond.exactly (Jvm.Term.string "RainWishes$Parser" (113 : Nat)) "java/lang/String") ∈ nfl := List.mem_of_getElem? (i := 199) (by decide +kernel)
set_option maxRecDepth 20000 in
theorem nf_200 : (Jvm.Cond.eq (Jvm.Term.field (Jvm.Term.string "RainWishes$Parser" (113 : Nat)) "java/lang/String" "coder" "B") (Jvm.Term.int (0 : Int32))) ∈ nfl := List.mem_of_getElem? (i := 200) (by decide +kernel)
set_option maxRecDepth 20000 in
theorem nf_201 : (Jvm.Cond.arrayOf (Jvm.Term.field (Jvm.Term.string "RainWishes$Parser" (113 : Nat)) "java/lang/String" "value" "[B") Jvm.ClassFile.FieldType.byte) ∈ nfl := List.mem_of_getElem? (i := 201) (by decide +kernel)
set_option maxRecDepth 20000 in
theorem nf_202 : (Jvm.Cond.eq (Jvm.Term.length (Jvm.Term.field (Jvm.Term.string "RainWishes$Parser" (113 : Nat)) "java/lang/String" "value" "[B")) (Jvm.Term.int (1 : Int32))) ∈ nfl := List.mem_of_getElem? (i := 202) (by decide +kernel)
set_option maxRecDepth 20000 in
theorem nf_203 : (Jvm.Cond.eq (Jvm.Term.elem (Jvm.Term.field (Jvm.Term.string "RainWishes$Parser" (113 : Nat)) "java/lang/String" "value" "[B") (Jvm.Term.int (0 : Int32))) (Jvm.Term.int (59 : Int32))) ∈ nfl := List.mem_of_getElem? (i := 203) (by decide +kernel)
set_option maxRecDepth 20000 in
theorem nf_204 : (Jvm.Cond.exactly (Jvm.Term.string "RainWishes$Parser" (115 : Nat)) "java/lang/String") ∈ nfl := List.mem_of_getElem? (i := 204) (by decide +kernel)
set_option maxRecDepth 20000 in
theorem nf_205 : (Jvm.Cond.eq (Jvm.Term.field (Jvm.Term.string "RainWishes$Parser" (115 : Nat)) "java/lang/String" "coder" "B") (Jvm.Term.int (0 : Int32))) ∈ nfl := List.mem_of_getElem? (i := 205) (by decide +kernel)
set_option maxRecDepth 20000 in
theorem nf_206 : (Jvm.Cond.arrayOf (Jvm.Term.field (Jvm.Term.string "RainWishes$Parser" (115 : Nat)) "java/lang/String" "value" "[B") Jvm.ClassFile.FieldType.byte) ∈ nfl := List.mem_of_getElem? (i := 206) (by decide +kernel)
set_option maxRecDepth 20000 in
theorem nf_207 : (Jvm.Cond.eq (Jvm.Term.length (Jvm.Term.field (Jvm.Term.string "RainWishes$Parser" (115 : Nat)) "java/lang/String" "value" "[B")) (Jvm.Term.int (4 : Int32))) ∈ nfl := List.mem_of_getElem? (i := 207) (by decide +kernel)
set_option maxRecDepth 20000 in
theorem nf_208 : (Jvm.Cond.eq (Jvm.Term.elem (Jvm.Term.field (Jvm.Term.string "RainWishes$Parser" (115 : Nat)) "java/lang/String" "value" "[B") (Jvm.Term.int (0 : Int32))) (Jvm.Term.int (119 : Int32))) ∈ nfl := List.mem_of_getElem? (i := 208) (by decide +kernel)
set_option maxRecDepth 20000 in
theorem nf_209 : (Jvm.Cond.eq (Jvm.Term.elem (Jvm.Term.field (Jvm.Term.string "RainWishes$Parser" (115 : Nat)) "java/lang/String" "value" "[B") (Jvm.Term.int (1 : Int32))) (Jvm.Term.int (105 : Int32))) ∈ nfl := List.mem_of_getElem? (i := 209) (by decide +kernel)
set_option maxRecDepth 20000 in
theorem nf_210 : (Jvm.Cond.eq (Jvm.Term.elem (Jvm.Term.field (Jvm.Term.string "RainWishes$Parser" (115 : Nat)) "java/lang/String" "value" "[B") (Jvm.Term.int (2 : Int32))) (Jvm.Term.int (115 : Int32))) ∈ nfl := List.mem_of_getElem? (i := 210) (by decide +kernel)
set_option maxRecDepth 20000 in
theorem nf_211 : (Jvm.Cond.eq (Jvm.Term.elem (Jvm.Term.field (Jvm.Term.string "RainWishes$Parser" (115 : Nat)) "java/lang/String" "value" "[B") (Jvm.Term.int (3 : Int32))) (Jvm.Term.int (104 : Int32))) ∈ nfl := List.mem_of_getElem? (i := 211) (by decide +kernel)
set_option maxRecDepth 20000 in
theorem nf_212 : (Jvm.Cond.exactly (Jvm.Term.string "RainWishes$Parser" (131 : Nat)) "java/lang/String") ∈ nfl := List.mem_of_getElem? (i := 212) (by decide +kernel)
set_option maxRecDepth 20000 in
theorem nf_213 : (Jvm.Cond.eq (Jvm.Term.field (Jvm.Term.string "RainWishes$Parser" (131 : Nat)) "java/lang/String" "coder" "B") (Jvm.Term.int (0 : Int32))) ∈ nfl := List.mem_of_getElem? (i := 213) (by decide +kernel)
set_option maxRecDepth 20000 in
theorem nf_214 : (Jvm.Cond.arrayOf (Jvm.Term.field (Jvm.Term.string "RainWishes$Parser" (131 : Nat)) "java/lang/String" "value" "[B") Jvm.ClassFile.FieldType.byte) ∈ nfl := List.mem_of_getElem? (i := 214) (by decide +kernel)
set_option maxRecDepth 20000 in
theorem nf_215 : (Jvm.Cond.eq (Jvm.Term.length (Jvm.Term.field (Jvm.Term.string "RainWishes$Parser" (131 : Nat)) "java/lang/String" "value" "[B")) (Jvm.Term.int (2 : Int32))) ∈ nfl := List.mem_of_getElem? (i := 215) (by decide +kernel)
set_option maxRecDepth 20000 in
theorem nf_216 : (Jvm.Cond.eq (Jvm.Term.elem (Jvm.Term.field (Jvm.Term.string "RainWishes$Parser" (131 : Nat)) "java/lang/String" "value" "[B") (Jvm.Term.int (0 : Int32))) (Jvm.Term.int (98 : Int32))) ∈ nfl := List.mem_of_getElem? (i := 216) (by decide +kernel)
set_option maxRecDepth 20000 in
theorem nf_217 : (Jvm.Cond.eq (Jvm.Term.elem (Jvm.Term.field (Jvm.Term.string "RainWishes$Parser" (131 : Nat)) "java/lang/String" "value" "[B") (Jvm.Term.int (1 : Int32))) (Jvm.Term.int (121 : Int32))) ∈ nfl := List.mem_of_getElem? (i := 217) (by decide +kernel)
set_option maxRecDepth 20000 in
theorem nf_218 : (Jvm.Cond.exactly (Jvm.Term.string "RainWishes$Parser" (138 : Nat)) "java/lang/String") ∈ nfl := List.mem_of_getElem? (i := 218) (by decide +kernel)
set_option maxRecDepth 20000 in
theorem nf_219 : (Jvm.Cond.eq (Jvm.Term.field (Jvm.Term.string "RainWishes$Parser" (138 : Nat)) "java/lang/String" "coder" "B") (Jvm.Term.int (0 : Int32))) ∈ nfl := List.mem_of_getElem? (i := 219) (by decide +kernel)
set_option maxRecDepth 20000 in
theorem nf_220 : (Jvm.Cond.arrayOf (Jvm.Term.field (Jvm.Term.string "RainWishes$Parser" (138 : Nat)) "java/lang/String" "value" "[B") Jvm.ClassFile.FieldType.byte) ∈ nfl := List.mem_of_getElem? (i := 220) (by decide +kernel)
set_option maxRecDepth 20000 in
theorem nf_221 : (Jvm.Cond.eq (Jvm.Term.length (Jvm.Term.field (Jvm.Term.string "RainWishes$Parser" (138 : Nat)) "java/lang/String" "value" "[B")) (Jvm.Term.int (6 : Int32))) ∈ nfl := List.mem_of_getElem? (i := 221) (by decide +kernel)
set_option maxRecDepth 20000 in
theorem nf_222 : (Jvm.Cond.eq (Jvm.Term.elem (Jvm.Term.field (Jvm.Term.string "RainWishes$Parser" (138 : Nat)) "java/lang/String" "value" "[B") (Jvm.Term.int (0 : Int32))) (Jvm.Term.int (119 : Int32))) ∈ nfl := List.mem_of_getElem? (i := 222) (by decide +kernel)
set_option maxRecDepth 20000 in
theorem nf_223 : (Jvm.Cond.eq (Jvm.Term.elem (Jvm.Term.field (Jvm.Term.string "RainWishes$Parser" (138 : Nat)) "java/lang/String" "value" "[B") (Jvm.Term.int (1 : Int32))) (Jvm.Term.int (101 : Int32))) ∈ nfl := List.mem_of_getElem? (i := 223) (by decide +kernel)
set_option maxRecDepth 20000 in
theorem nf_224 : (Jvm.Cond.eq (Jvm.Term.elem (Jvm.Term.field (Jvm.Term.string "RainWishes$Parser" (138 : Nat)) "java/lang/String" "value" "[B") (Jvm.Term.int (2 : Int32))) (Jvm.Term.int (105 : Int32))) ∈ nfl := List.mem_of_getElem? (i := 224) (by decide +kernel)
set_option maxRecDepth 20000 in
theorem nf_225 : (Jvm.Cond.eq (Jvm.Term.elem (Jvm.Term.field (Jvm.Term.string "RainWishes$Parser" (138 : Nat)) "java/lang/String" "value" "[B") (Jvm.Term.int (3 : Int32))) (Jvm.Term.int (103 : Int32))) ∈ nfl := List.mem_of_getElem? (i := 225) (by decide +kernel)
set_option maxRecDepth 20000 in
theorem nf_226 : (Jvm.Cond.eq (Jvm.Term.elem (Jvm.Term.field (Jvm.Term.string "RainWishes$Parser" (138 : Nat)) "java/lang/String" "value" "[B") (Jvm.Term.int (4 : Int32))) (Jvm.Term.int (104 : Int32))) ∈ nfl := List.mem_of_getElem? (i := 226) (by decide +kernel)
set_option maxRecDepth 20000 in
theorem nf_227 : (Jvm.Cond.eq (Jvm.Term.elem (Jvm.Term.field (Jvm.Term.string "RainWishes$Parser" (138 : Nat)) "java/lang/String" "value" "[B") (Jvm.Term.int (5 : Int32))) (Jvm.Term.int (116 : Int32))) ∈ nfl := List.mem_of_getElem? (i := 227) (by decide +kernel)
set_option maxRecDepth 20000 in
theorem nf_228 : (Jvm.Cond.exactly (Jvm.Term.string "RainWishes$Parser" (139 : Nat)) "java/lang/String") ∈ nfl := List.mem_of_getElem? (i := 228) (by decide +kernel)
set_option maxRecDepth 20000 in
theorem nf_229 : (Jvm.Cond.eq (Jvm.Term.field (Jvm.Term.string "RainWishes$Parser" (139 : Nat)) "java/lang/String" "coder" "B") (Jvm.Term.int (0 : Int32))) ∈ nfl := List.mem_of_getElem? (i := 229) (by decide +kernel)
set_option maxRecDepth 20000 in
theorem nf_230 : (Jvm.Cond.arrayOf (Jvm.Term.field (Jvm.Term.string "RainWishes$Parser" (139 : Nat)) "java/lang/String" "value" "[B") Jvm.ClassFile.FieldType.byte) ∈ nfl := List.mem_of_getElem? (i := 230) (by decide +kernel)
set_option maxRecDepth 20000 in
theorem nf_231 : (Jvm.Cond.eq (Jvm.Term.length (Jvm.Term.field (Jvm.Term.string "RainWishes$Parser" (139 : Nat)) "java/lang/String" "value" "[B")) (Jvm.Term.int (4 : Int32))) ∈ nfl := List.mem_of_getElem? (i := 231) (by decide +kernel)
set_option maxRecDepth 20000 in
theorem nf_232 : (Jvm.Cond.eq (Jvm.Term.elem (Jvm.Term.field (Jvm.Term.string "RainWishes$Parser" (139 : Nat)) "java/lang/String" "value" "[B") (Jvm.Term.int (0 : Int32))) (Jvm.Term.int (109 : Int32))) ∈ nfl := List.mem_of_getElem? (i := 232) (by decide +kernel)
set_option maxRecDepth 20000 in
theorem nf_233 : (Jvm.Cond.eq (Jvm.Term.elem (Jvm.Term.field (Jvm.Term.string "RainWishes$Parser" (139 : Nat)) "java/lang/String" "value" "[B") (Jvm.Term.int (1 : Int32))) (Jvm.Term.int (117 : Int32))) ∈ nfl := List.mem_of_getElem? (i := 233) (by decide +kernel)
set_option maxRecDepth 20000 in
theorem nf_234 : (Jvm.Cond.eq (Jvm.Term.elem (Jvm.Term.field (Jvm.Term.string "RainWishes$Parser" (139 : Nat)) "java/lang/String" "value" "[B") (Jvm.Term.int (2 : Int32))) (Jvm.Term.int (115 : Int32))) ∈ nfl := List.mem_of_getElem? (i := 234) (by decide +kernel)
set_option maxRecDepth 20000 in
theorem nf_235 : (Jvm.Cond.eq (Jvm.Term.elem (Jvm.Term.field (Jvm.Term.string "RainWishes$Parser" (139 : Nat)) "java/lang/String" "value" "[B") (Jvm.Term.int (3 : Int32))) (Jvm.Term.int (116 : Int32))) ∈ nfl := List.mem_of_getElem? (i := 235) (by decide +kernel)
set_option maxRecDepth 20000 in
theorem nf_236 : (Jvm.Cond.exactly (Jvm.Term.string "RainWishes$Parser" (162 : Nat)) "java/lang/String") ∈ nfl := List.mem_of_getElem? (i := 236) (by decide +kernel)
set_option maxRecDepth 20000 in
theorem nf_237 : (Jvm.Cond.eq (Jvm.Term.field (Jvm.Term.string "RainWishes$Parser" (162 : Nat)) "java/lang/String" "coder" "B") (Jvm.Term.int (0 : Int32))) ∈ nfl := List.mem_of_getElem? (i := 237) (by decide +kernel)
set_option maxRecDepth 20000 in
theorem nf_238 : (Jvm.Cond.arrayOf (Jvm.Term.field (Jvm.Term.string "RainWishes$Parser" (162 : Nat)) "java/lang/String" "value" "[B") Jvm.ClassFile.FieldType.byte) ∈ nfl := List.mem_of_getElem? (i := 238) (by decide +kernel)
set_option maxRecDepth 20000 in
theorem nf_239 : (Jvm.Cond.eq (Jvm.Term.length (Jvm.Term.field (Jvm.Term.string "RainWishes$Parser" (162 : Nat)) "java/lang/String" "value" "[B")) (Jvm.Term.int (1 : Int32))) ∈ nfl := List.mem_of_getElem? (i := 239) (by decide +kernel)
set_option maxRecDepth 20000 in
theorem nf_240 : (Jvm.Cond.eq (Jvm.Term.elem (Jvm.Term.field (Jvm.Term.string "RainWishes$Parser" (162 : Nat)) "java/lang/String" "value" "[B") (Jvm.Term.int (0 : Int32))) (Jvm.Term.int (58 : Int32))) ∈ nfl := List.mem_of_getElem? (i := 240) (by decide +kernel)
set_option maxRecDepth 20000 in
theorem nf_241 : (Jvm.Cond.exactly (Jvm.Term.string "RainWishes$Parser" (120 : Nat)) "java/lang/String") ∈ nfl := List.mem_of_getElem? (i := 241) (by decide +kernel)
set_option maxRecDepth 20000 in
theorem nf_242 : (Jvm.Cond.eq (Jvm.Term.field (Jvm.Term.string "RainWishes$Parser" (120 : Nat)) "java/lang/String" "coder" "B") (Jvm.Term.int (0 : Int32))) ∈ nfl := List.mem_of_getElem? (i := 242) (by decide +kernel)
set_option maxRecDepth 20000 in
theorem nf_243 : (Jvm.Cond.arrayOf (Jvm.Term.field (Jvm.Term.string "RainWishes$Parser" (120 : Nat)) "java/lang/String" "value" "[B") Jvm.ClassFile.FieldType.byte) ∈ nfl := List.mem_of_getElem? (i := 243) (by decide +kernel)
set_option maxRecDepth 20000 in
theorem nf_244 : (Jvm.Cond.eq (Jvm.Term.length (Jvm.Term.field (Jvm.Term.string "RainWishes$Parser" (120 : Nat)) "java/lang/String" "value" "[B")) (Jvm.Term.int (6 : Int32))) ∈ nfl := List.mem_of_getElem? (i := 244) (by decide +kernel)
set_option maxRecDepth 20000 in
theorem nf_245 : (Jvm.Cond.eq (Jvm.Term.elem (Jvm.Term.field (Jvm.Term.string "RainWishes$Parser" (120 : Nat)) "java/lang/String" "value" "[B") (Jvm.Term.int (0 : Int32))) (Jvm.Term.int (99 : Int32))) ∈ nfl := List.mem_of_getElem? (i := 245) (by decide +kernel)
set_option maxRecDepth 20000 in
theorem nf_246 : (Jvm.Cond.eq (Jvm.Term.elem (Jvm.Term.field (Jvm.Term.string "RainWishes$Parser" (120 : Nat)) "java/lang/String" "value" "[B") (Jvm.Term.int (1 : Int32))) (Jvm.Term.int (108 : Int32))) ∈ nfl := List.mem_of_getElem? (i := 246) (by decide +kernel)
set_option maxRecDepth 20000 in
theorem nf_247 : (Jvm.Cond.eq (Jvm.Term.elem (Jvm.Term.field (Jvm.Term.string "RainWishes$Parser" (120 : Nat)) "java/lang/String" "value" "[B") (Jvm.Term.int (2 : Int32))) (Jvm.Term.int (111 : Int32))) ∈ nfl := List.mem_of_getElem? (i := 247) (by decide +kernel)
set_option maxRecDepth 20000 in
theorem nf_248 : (Jvm.Cond.eq (Jvm.Term.elem (Jvm.Term.field (Jvm.Term.string "RainWishes$Parser" (120 : Nat)) "java/lang/String" "value" "[B") (Jvm.Term.int (3 : Int32))) (Jvm.Term.int (117 : Int32))) ∈ nfl := List.mem_of_getElem? (i := 248) (by decide +kernel)
set_option maxRecDepth 20000 in
theorem nf_249 : (Jvm.Cond.eq (Jvm.Term.elem (Jvm.Term.field (Jvm.Term.string "RainWishes$Parser" (120 : Nat)) "java/lang/String" "value" "[B") (Jvm.Term.int (4 : Int32))) (Jvm.Term.int (100 : Int32))) ∈ nfl := List.mem_of_getElem? (i := 249) (by decide +kernel)
set_option maxRecDepth 20000 in
theorem nf_250 : (Jvm.Cond.eq (Jvm.Term.elem (Jvm.Term.field (Jvm.Term.string "RainWishes$Parser" (120 : Nat)) "java/lang/String" "value" "[B") (Jvm.Term.int (5 : Int32))) (Jvm.Term.int (115 : Int32))) ∈ nfl := List.mem_of_getElem? (i := 250) (by decide +kernel)
set_option maxRecDepth 20000 in
theorem nf_251 : (Jvm.Cond.exactly (Jvm.Term.string "RainWishes$Parser" (122 : Nat)) "java/lang/String") ∈ nfl := List.mem_of_getElem? (i := 251) (by decide +kernel)
set_option maxRecDepth 20000 in
theorem nf_252 : (Jvm.Cond.eq (Jvm.Term.field (Jvm.Term.string "RainWishes$Parser" (122 : Nat)) "java/lang/String" "coder" "B") (Jvm.Term.int (0 : Int32))) ∈ nfl := List.mem_of_getElem? (i := 252) (by decide +kernel)
set_option maxRecDepth 20000 in
theorem nf_253 : (Jvm.Cond.arrayOf (Jvm.Term.field (Jvm.Term.string "RainWishes$Parser" (122 : Nat)) "java/lang/String" "value" "[B") Jvm.ClassFile.FieldType.byte) ∈ nfl := List.mem_of_getElem? (i := 253) (by decide +kernel)
set_option maxRecDepth 20000 in
theorem nf_254 : (Jvm.Cond.eq (Jvm.Term.length (Jvm.Term.field (Jvm.Term.string "RainWishes$Parser" (122 : Nat)) "java/lang/String" "value" "[B")) (Jvm.Term.int (4 : Int32))) ∈ nfl := List.mem_of_getElem? (i := 254) (by decide +kernel)
set_option maxRecDepth 20000 in
theorem nf_255 : (Jvm.Cond.eq (Jvm.Term.elem (Jvm.Term.field (Jvm.Term.string "RainWishes$Parser" (122 : Nat)) "java/lang/String" "value" "[B") (Jvm.Term.int (0 : Int32))) (Jvm.Term.int (119 : Int32))) ∈ nfl := List.mem_of_getElem? (i := 255) (by decide +kernel)
set_option maxRecDepth 20000 in
theorem nf_256 : (Jvm.Cond.eq (Jvm.Term.elem (Jvm.Term.field (Jvm.Term.string "RainWishes$Parser" (122 : Nat)) "java/lang/String" "value" "[B") (Jvm.Term.int (1 : Int32))) (Jvm.Term.int (105 : Int32))) ∈ nfl := List.mem_of_getElem? (i := 256) (by decide +kernel)
set_option maxRecDepth 20000 in
theorem nf_257 : (Jvm.Cond.eq (Jvm.Term.elem (Jvm.Term.field (Jvm.Term.string "RainWishes$Parser" (122 : Nat)) "java/lang/String" "value" "[B") (Jvm.Term.int (2 : Int32))) (Jvm.Term.int (110 : Int32))) ∈ nfl := List.mem_of_getElem? (i := 257) (by decide +kernel)
set_option maxRecDepth 20000 in
theorem nf_258 : (Jvm.Cond.eq (Jvm.Term.elem (Jvm.Term.field (Jvm.Term.string "RainWishes$Parser" (122 : Nat)) "java/lang/String" "value" "[B") (Jvm.Term.int (3 : Int32))) (Jvm.Term.int (100 : Int32))) ∈ nfl := List.mem_of_getElem? (i := 258) (by decide +kernel)
set_option maxRecDepth 20000 in
theorem nf_259 : (Jvm.Cond.exactly (Jvm.Term.string "RainWishes$Parser" (168 : Nat)) "java/lang/String") ∈ nfl := List.mem_of_getElem? (i := 259) (by decide +kernel)
set_option maxRecDepth 20000 in
theorem nf_260 : (Jvm.Cond.eq (Jvm.Term.field (Jvm.Term.string "RainWishes$Parser" (168 : Nat)) "java/lang/String" "coder" "B") (Jvm.Term.int (0 : Int32))) ∈ nfl := List.mem_of_getElem? (i := 260) (by decide +kernel)
set_option maxRecDepth 20000 in
theorem nf_261 : (Jvm.Cond.arrayOf (Jvm.Term.field (Jvm.Term.string "RainWishes$Parser" (168 : Nat)) "java/lang/String" "value" "[B") Jvm.ClassFile.FieldType.byte) ∈ nfl := List.mem_of_getElem? (i := 261) (by decide +kernel)
set_option maxRecDepth 20000 in
theorem nf_262 : (Jvm.Cond.eq (Jvm.Term.length (Jvm.Term.field (Jvm.Term.string "RainWishes$Parser" (168 : Nat)) "java/lang/String" "value" "[B")) (Jvm.Term.int (3 : Int32))) ∈ nfl := List.mem_of_getElem? (i := 262) (by decide +kernel)
set_option maxRecDepth 20000 in
theorem nf_263 : (Jvm.Cond.eq (Jvm.Term.elem (Jvm.Term.field (Jvm.Term.string "RainWishes$Parser" (168 : Nat)) "java/lang/String" "value" "[B") (Jvm.Term.int (0 : Int32))) (Jvm.Term.int (110 : Int32))) ∈ nfl := List.mem_of_getElem? (i := 263) (by decide +kernel)
set_option maxRecDepth 20000 in
theorem nf_264 : (Jvm.Cond.eq (Jvm.Term.elem (Jvm.Term.field (Jvm.Term.string "RainWishes$Parser" (168 : Nat)) "java/lang/String" "value" "[B") (Jvm.Term.int (1 : Int32))) (Jvm.Term.int (111 : Int32))) ∈ nfl := List.mem_of_getElem? (i := 264) (by decide +kernel)
set_option maxRecDepth 20000 in
theorem nf_265 : (Jvm.Cond.eq (Jvm.Term.elem (Jvm.Term.field (Jvm.Term.string "RainWishes$Parser" (168 : Nat)) "java/lang/String" "value" "[B") (Jvm.Term.int (2 : Int32))) (Jvm.Term.int (116 : Int32))) ∈ nfl := List.mem_of_getElem? (i := 265) (by decide +kernel)
set_option maxRecDepth 20000 in
theorem nf_266 : (Jvm.Cond.exactly (Jvm.Term.string "RainWishes$Parser" (173 : Nat)) "java/lang/String") ∈ nfl := List.mem_of_getElem? (i := 266) (by decide +kernel)
set_option maxRecDepth 20000 in
theorem nf_267 : (Jvm.Cond.eq (Jvm.Term.field (Jvm.Term.string "RainWishes$Parser" (173 : Nat)) "java/lang/String" "coder" "B") (Jvm.Term.int (0 : Int32))) ∈ nfl := List.mem_of_getElem? (i := 267) (by decide +kernel)
set_option maxRecDepth 20000 in
theorem nf_268 : (Jvm.Cond.arrayOf (Jvm.Term.field (Jvm.Term.string "RainWishes$Parser" (173 : Nat)) "java/lang/String" "value" "[B") Jvm.ClassFile.FieldType.byte) ∈ nfl := List.mem_of_getElem? (i := 268) (by decide +kernel)
set_option maxRecDepth 20000 in
theorem nf_269 : (Jvm.Cond.eq (Jvm.Term.length (Jvm.Term.field (Jvm.Term.string "RainWishes$Parser" (173 : Nat)) "java/lang/String" "value" "[B")) (Jvm.Term.int (1 : Int32))) ∈ nfl := List.mem_of_getElem? (i := 269) (by decide +kernel)
set_option maxRecDepth 20000 in
theorem nf_270 : (Jvm.Cond.eq (Jvm.Term.elem (Jvm.Term.field (Jvm.Term.string "RainWishes$Parser" (173 : Nat)) "java/lang/String" "value" "[B") (Jvm.Term.int (0 : Int32))) (Jvm.Term.int (91 : Int32))) ∈ nfl := List.mem_of_getElem? (i := 270) (by decide +kernel)
set_option maxRecDepth 20000 in
theorem nf_271 : (Jvm.Cond.exactly (Jvm.Term.string "RainWishes$Parser" (175 : Nat)) "java/lang/String") ∈ nfl := List.mem_of_getElem? (i := 271) (by decide +kernel)
set_option maxRecDepth 20000 in
theorem nf_272 : (Jvm.Cond.eq (Jvm.Term.field (Jvm.Term.string "RainWishes$Parser" (175 : Nat)) "java/lang/String" "coder" "B") (Jvm.Term.int (0 : Int32))) ∈ nfl := List.mem_of_getElem? (i := 272) (by decide +kernel)
set_option maxRecDepth 20000 in
theorem nf_273 : (Jvm.Cond.arrayOf (Jvm.Term.field (Jvm.Term.string "RainWishes$Parser" (175 : Nat)) "java/lang/String" "value" "[B") Jvm.ClassFile.FieldType.byte) ∈ nfl := List.mem_of_getElem? (i := 273) (by decide +kernel)
set_option maxRecDepth 20000 in
theorem nf_274 : (Jvm.Cond.eq (Jvm.Term.length (Jvm.Term.field (Jvm.Term.string "RainWishes$Parser" (175 : Nat)) "java/lang/String" "value" "[B")) (Jvm.Term.int (1 : Int32))) ∈ nfl := List.mem_of_getElem? (i := 274) (by decide +kernel)
set_option maxRecDepth 20000 in
theorem nf_275 : (Jvm.Cond.eq (Jvm.Term.elem (Jvm.Term.field (Jvm.Term.string "RainWishes$Parser" (175 : Nat)) "java/lang/String" "value" "[B") (Jvm.Term.int (0 : Int32))) (Jvm.Term.int (40 : Int32))) ∈ nfl := List.mem_of_getElem? (i := 275) (by decide +kernel)
set_option maxRecDepth 20000 in
theorem nf_276 : (Jvm.Cond.exactly (Jvm.Term.string "RainWishes$Parser" (187 : Nat)) "java/lang/String") ∈ nfl := List.mem_of_getElem? (i := 276) (by decide +kernel)
set_option maxRecDepth 20000 in
theorem nf_277 : (Jvm.Cond.eq (Jvm.Term.field (Jvm.Term.string "RainWishes$Parser" (187 : Nat)) "java/lang/String" "coder" "B") (Jvm.Term.int (0 : Int32))) ∈ nfl := List.mem_of_getElem? (i := 277) (by decide +kernel)
set_option maxRecDepth 20000 in
theorem nf_278 : (Jvm.Cond.arrayOf (Jvm.Term.field (Jvm.Term.string "RainWishes$Parser" (187 : Nat)) "java/lang/String" "value" "[B") Jvm.ClassFile.FieldType.byte) ∈ nfl := List.mem_of_getElem? (i := 278) (by decide +kernel)
set_option maxRecDepth 20000 in
theorem nf_279 : (Jvm.Cond.eq (Jvm.Term.length (Jvm.Term.field (Jvm.Term.string "RainWishes$Parser" (187 : Nat)) "java/lang/String" "value" "[B")) (Jvm.Term.int (3 : Int32))) ∈ nfl := List.mem_of_getElem? (i := 279) (by decide +kernel)
set_option maxRecDepth 20000 in
theorem nf_280 : (Jvm.Cond.eq (Jvm.Term.elem (Jvm.Term.field (Jvm.Term.string "RainWishes$Parser" (187 : Nat)) "java/lang/String" "value" "[B") (Jvm.Term.int (0 : Int32))) (Jvm.Term.int (97 : Int32))) ∈ nfl := List.mem_of_getElem? (i := 280) (by decide +kernel)
set_option maxRecDepth 20000 in
theorem nf_281 : (Jvm.Cond.eq (Jvm.Term.elem (Jvm.Term.field (Jvm.Term.string "RainWishes$Parser" (187 : Nat)) "java/lang/String" "value" "[B") (Jvm.Term.int (1 : Int32))) (Jvm.Term.int (108 : Int32))) ∈ nfl := List.mem_of_getElem? (i := 281) (by decide +kernel)
set_option maxRecDepth 20000 in
theorem nf_282 : (Jvm.Cond.eq (Jvm.Term.elem (Jvm.Term.field (Jvm.Term.string "RainWishes$Parser" (187 : Nat)) "java/lang/String" "value" "[B") (Jvm.Term.int (2 : Int32))) (Jvm.Term.int (108 : Int32))) ∈ nfl := List.mem_of_getElem? (i := 282) (by decide +kernel)
set_option maxRecDepth 20000 in
theorem nf_283 : (Jvm.Cond.exactly (Jvm.Term.string "RainWishes$Parser" (192 : Nat)) "java/lang/String") ∈ nfl := List.mem_of_getElem? (i := 283) (by decide +kernel)
set_option maxRecDepth 20000 in
theorem nf_284 : (Jvm.Cond.eq (Jvm.Term.field (Jvm.Term.string "RainWishes$Parser" (192 : Nat)) "java/lang/String" "coder" "B") (Jvm.Term.int (0 : Int32))) ∈ nfl := List.mem_of_getElem? (i := 284) (by decide +kernel)
set_option maxRecDepth 20000 in
theorem nf_285 : (Jvm.Cond.arrayOf (Jvm.Term.field (Jvm.Term.string "RainWishes$Parser" (192 : Nat)) "java/lang/String" "value" "[B") Jvm.ClassFile.FieldType.byte) ∈ nfl := List.mem_of_getElem? (i := 285) (by decide +kernel)
set_option maxRecDepth 20000 in
theorem nf_286 : (Jvm.Cond.eq (Jvm.Term.length (Jvm.Term.field (Jvm.Term.string "RainWishes$Parser" (192 : Nat)) "java/lang/String" "value" "[B")) (Jvm.Term.int (3 : Int32))) ∈ nfl := List.mem_of_getElem? (i := 286) (by decide +kernel)
set_option maxRecDepth 20000 in
theorem nf_287 : (Jvm.Cond.eq (Jvm.Term.elem (Jvm.Term.field (Jvm.Term.string "RainWishes$Parser" (192 : Nat)) "java/lang/String" "value" "[B") (Jvm.Term.int (0 : Int32))) (Jvm.Term.int (119 : Int32))) ∈ nfl := List.mem_of_getElem? (i := 287) (by decide +kernel)
set_option maxRecDepth 20000 in
theorem nf_288 : (Jvm.Cond.eq (Jvm.Term.elem (Jvm.Term.field (Jvm.Term.string "RainWishes$Parser" (192 : Nat)) "java/lang/String" "value" "[B") (Jvm.Term.int (1 : Int32))) (Jvm.Term.int (101 : Int32))) ∈ nfl := List.mem_of_getElem? (i := 288) (by decide +kernel)
set_option maxRecDepth 20000 in
theorem nf_289 : (Jvm.Cond.eq (Jvm.Term.elem (Jvm.Term.field (Jvm.Term.string "RainWishes$Parser" (192 : Nat)) "java/lang/String" "value" "[B") (Jvm.Term.int (2 : Int32))) (Jvm.Term.int (116 : Int32))) ∈ nfl := List.mem_of_getElem? (i := 289) (by decide +kernel)
set_option maxRecDepth 20000 in
theorem nf_290 : (Jvm.Cond.exactly (Jvm.Term.string "RainWishes$Parser" (194 : Nat)) "java/lang/String") ∈ nfl := List.mem_of_getElem? (i := 290) (by decide +kernel)
set_option maxRecDepth 20000 in
theorem nf_291 : (Jvm.Cond.eq (Jvm.Term.field (Jvm.Term.string "RainWishes$Parser" (194 : Nat)) "java/lang/String" "coder" "B") (Jvm.Term.int (0 : Int32))) ∈ nfl := List.mem_of_getElem? (i := 291) (by decide +kernel)
set_option maxRecDepth 20000 in
theorem nf_292 : (Jvm.Cond.arrayOf (Jvm.Term.field (Jvm.Term.string "RainWishes$Parser" (194 : Nat)) "java/lang/String" "value" "[B") Jvm.ClassFile.FieldType.byte) ∈ nfl := List.mem_of_getElem? (i := 292) (by decide +kernel)
set_option maxRecDepth 20000 in
theorem nf_293 : (Jvm.Cond.eq (Jvm.Term.length (Jvm.Term.field (Jvm.Term.string "RainWishes$Parser" (194 : Nat)) "java/lang/String" "value" "[B")) (Jvm.Term.int (2 : Int32))) ∈ nfl := List.mem_of_getElem? (i := 293) (by decide +kernel)
set_option maxRecDepth 20000 in
theorem nf_294 : (Jvm.Cond.eq (Jvm.Term.elem (Jvm.Term.field (Jvm.Term.string "RainWishes$Parser" (194 : Nat)) "java/lang/String" "value" "[B") (Jvm.Term.int (0 : Int32))) (Jvm.Term.int (111 : Int32))) ∈ nfl := List.mem_of_getElem? (i := 294) (by decide +kernel)
set_option maxRecDepth 20000 in
theorem nf_295 : (Jvm.Cond.eq (Jvm.Term.elem (Jvm.Term.field (Jvm.Term.string "RainWishes$Parser" (194 : Nat)) "java/lang/String" "value" "[B") (Jvm.Term.int (1 : Int32))) (Jvm.Term.int (110 : Int32))) ∈ nfl := List.mem_of_getElem? (i := 295) (by decide +kernel)
set_option maxRecDepth 20000 in
theorem nf_296 : (Jvm.Cond.exactly (Jvm.Term.string "RainWishes$Parser" (196 : Nat)) "java/lang/String") ∈ nfl := List.mem_of_getElem? (i := 296) (by decide +kernel)
set_option maxRecDepth 20000 in
theorem nf_297 : (Jvm.Cond.eq (Jvm.Term.field (Jvm.Term.string "RainWishes$Parser" (196 : Nat)) "java/lang/String" "coder" "B") (Jvm.Term.int (0 : Int32))) ∈ nfl := List.mem_of_getElem? (i := 297) (by decide +kernel)
set_option maxRecDepth 20000 in
theorem nf_298 : (Jvm.Cond.arrayOf (Jvm.Term.field (Jvm.Term.string "RainWishes$Parser" (196 : Nat)) "java/lang/String" "value" "[B") Jvm.ClassFile.FieldType.byte) ∈ nfl := List.mem_of_getElem? (i := 298) (by decide +kernel)
set_option maxRecDepth 20000 in
theorem nf_299 : (Jvm.Cond.eq (Jvm.Term.length (Jvm.Term.field (Jvm.Term.string "RainWishes$Parser" (196 : Nat)) "java/lang/String" "value" "[B")) (Jvm.Term.int (2 : Int32))) ∈ nfl := List.mem_of_getElem? (i := 299) (by decide +kernel)
set_option maxRecDepth 20000 in
theorem nf_300 : (Jvm.Cond.eq (Jvm.Term.elem (Jvm.Term.field (Jvm.Term.string "RainWishes$Parser" (196 : Nat)) "java/lang/String" "value" "[B") (Jvm.Term.int (0 : Int32))) (Jvm.Term.int (111 : Int32))) ∈ nfl := List.mem_of_getElem? (i := 300) (by decide +kernel)
set_option maxRecDepth 20000 in
theorem nf_301 : (Jvm.Cond.eq (Jvm.Term.elem (Jvm.Term.field (Jvm.Term.string "RainWishes$Parser" (196 : Nat)) "java/lang/String" "value" "[B") (Jvm.Term.int (1 : Int32))) (Jvm.Term.int (102 : Int32))) ∈ nfl := List.mem_of_getElem? (i := 301) (by decide +kernel)
set_option maxRecDepth 20000 in
theorem nf_302 : (Jvm.Cond.exactly (Jvm.Term.string "RainWishes$Parser" (228 : Nat)) "java/lang/String") ∈ nfl := List.mem_of_getElem? (i := 302) (by decide +kernel)
set_option maxRecDepth 20000 in
theorem nf_303 : (Jvm.Cond.eq (Jvm.Term.field (Jvm.Term.string "RainWishes$Parser" (228 : Nat)) "java/lang/String" "coder" "B") (Jvm.Term.int (0 : Int32))) ∈ nfl := List.mem_of_getElem? (i := 303) (by decide +kernel)
set_option maxRecDepth 20000 in
theorem nf_304 : (Jvm.Cond.arrayOf (Jvm.Term.field (Jvm.Term.string "RainWishes$Parser" (228 : Nat)) "java/lang/String" "value" "[B") Jvm.ClassFile.FieldType.byte) ∈ nfl := List.mem_of_getElem? (i := 304) (by decide +kernel)
set_option maxRecDepth 20000 in
theorem nf_305 : (Jvm.Cond.eq (Jvm.Term.length (Jvm.Term.field (Jvm.Term.string "RainWishes$Parser" (228 : Nat)) "java/lang/String" "value" "[B")) (Jvm.Term.int (1 : Int32))) ∈ nfl := List.mem_of_getElem? (i := 305) (by decide +kernel)
set_option maxRecDepth 20000 in
theorem nf_306 : (Jvm.Cond.eq (Jvm.Term.elem (Jvm.Term.field (Jvm.Term.string "RainWishes$Parser" (228 : Nat)) "java/lang/String" "value" "[B") (Jvm.Term.int (0 : Int32))) (Jvm.Term.int (43 : Int32))) ∈ nfl := List.mem_of_getElem? (i := 306) (by decide +kernel)
set_option maxRecDepth 20000 in
theorem nf_307 : (Jvm.Cond.exactly (Jvm.Term.string "RainWishes$Parser" (230 : Nat)) "java/lang/String") ∈ nfl := List.mem_of_getElem? (i := 307) (by decide +kernel)
set_option maxRecDepth 20000 in
theorem nf_308 : (Jvm.Cond.eq (Jvm.Term.field (Jvm.Term.string "RainWishes$Parser" (230 : Nat)) "java/lang/String" "coder" "B") (Jvm.Term.int (0 : Int32))) ∈ nfl := List.mem_of_getElem? (i := 308) (by decide +kernel)
set_option maxRecDepth 20000 in
theorem nf_309 : (Jvm.Cond.arrayOf (Jvm.Term.field (Jvm.Term.string "RainWishes$Parser" (230 : Nat)) "java/lang/String" "value" "[B") Jvm.ClassFile.FieldType.byte) ∈ nfl := List.mem_of_getElem? (i := 309) (by decide +kernel)
set_option maxRecDepth 20000 in
theorem nf_310 : (Jvm.Cond.eq (Jvm.Term.length (Jvm.Term.field (Jvm.Term.string "RainWishes$Parser" (230 : Nat)) "java/lang/String" "value" "[B")) (Jvm.Term.int (1 : Int32))) ∈ nfl := List.mem_of_getElem? (i := 310) (by decide +kernel)
set_option maxRecDepth 20000 in
theorem nf_311 : (Jvm.Cond.eq (Jvm.Term.elem (Jvm.Term.field (Jvm.Term.string "RainWishes$Parser" (230 : Nat)) "java/lang/String" "value" "[B") (Jvm.Term.int (0 : Int32))) (Jvm.Term.int (45 : Int32))) ∈ nfl := List.mem_of_getElem? (i := 311) (by decide +kernel)
set_option maxRecDepth 20000 in
theorem nf_312 : (Jvm.Cond.exactly (Jvm.Term.string "RainWishes$Parser" (232 : Nat)) "java/lang/String") ∈ nfl := List.mem_of_getElem? (i := 312) (by decide +kernel)
set_option maxRecDepth 20000 in
theorem nf_313 : (Jvm.Cond.eq (Jvm.Term.field (Jvm.Term.string "RainWishes$Parser" (232 : Nat)) "java/lang/String" "coder" "B") (Jvm.Term.int (0 : Int32))) ∈ nfl := List.mem_of_getElem? (i := 313) (by decide +kernel)
set_option maxRecDepth 20000 in
theorem nf_314 : (Jvm.Cond.arrayOf (Jvm.Term.field (Jvm.Term.string "RainWishes$Parser" (232 : Nat)) "java/lang/String" "value" "[B") Jvm.ClassFile.FieldType.byte) ∈ nfl := List.mem_of_getElem? (i := 314) (by decide +kernel)
set_option maxRecDepth 20000 in
theorem nf_315 : (Jvm.Cond.eq (Jvm.Term.length (Jvm.Term.field (Jvm.Term.string "RainWishes$Parser" (232 : Nat)) "java/lang/String" "value" "[B")) (Jvm.Term.int (1 : Int32))) ∈ nfl := List.mem_of_getElem? (i := 315) (by decide +kernel)
set_option maxRecDepth 20000 in
theorem nf_316 : (Jvm.Cond.eq (Jvm.Term.elem (Jvm.Term.field (Jvm.Term.string "RainWishes$Parser" (232 : Nat)) "java/lang/String" "value" "[B") (Jvm.Term.int (0 : Int32))) (Jvm.Term.int (42 : Int32))) ∈ nfl := List.mem_of_getElem? (i := 316) (by decide +kernel)
set_option maxRecDepth 20000 in
theorem nf_317 : (Jvm.Cond.exactly (Jvm.Term.string "RainWishes$Parser" (211 : Nat)) "java/lang/String") ∈ nfl := List.mem_of_getElem? (i := 317) (by decide +kernel)
set_option maxRecDepth 20000 in
theorem nf_318 : (Jvm.Cond.eq (Jvm.Term.field (Jvm.Term.string "RainWishes$Parser" (211 : Nat)) "java/lang/String" "coder" "B") (Jvm.Term.int (0 : Int32))) ∈ nfl := List.mem_of_getElem? (i := 318) (by decide +kernel)
set_option maxRecDepth 20000 in
theorem nf_319 : (Jvm.Cond.arrayOf (Jvm.Term.field (Jvm.Term.string "RainWishes$Parser" (211 : Nat)) "java/lang/String" "value" "[B") Jvm.ClassFile.FieldType.byte) ∈ nfl := List.mem_of_getElem? (i := 319) (by decide +kernel)
set_option maxRecDepth 20000 in
theorem nf_320 : (Jvm.Cond.eq (Jvm.Term.length (Jvm.Term.field (Jvm.Term.string "RainWishes$Parser" (211 : Nat)) "java/lang/String" "value" "[B")) (Jvm.Term.int (1 : Int32))) ∈ nfl := List.mem_of_getElem? (i := 320) (by decide +kernel)
set_option maxRecDepth 20000 in
theorem nf_321 : (Jvm.Cond.eq (Jvm.Term.elem (Jvm.Term.field (Jvm.Term.string "RainWishes$Parser" (211 : Nat)) "java/lang/String" "value" "[B") (Jvm.Term.int (0 : Int32))) (Jvm.Term.int (41 : Int32))) ∈ nfl := List.mem_of_getElem? (i := 321) (by decide +kernel)
set_option maxRecDepth 20000 in
theorem nf_322 : (Jvm.Cond.exactly (Jvm.Term.string "RainWishes$Parser" (234 : Nat)) "java/lang/String") ∈ nfl := List.mem_of_getElem? (i := 322) (by decide +kernel)
set_option maxRecDepth 20000 in
theorem nf_323 : (Jvm.Cond.eq (Jvm.Term.field (Jvm.Term.string "RainWishes$Parser" (234 : Nat)) "java/lang/String" "coder" "B") (Jvm.Term.int (0 : Int32))) ∈ nfl := List.mem_of_getElem? (i := 323) (by decide +kernel)
set_option maxRecDepth 20000 in
theorem nf_324 : (Jvm.Cond.arrayOf (Jvm.Term.field (Jvm.Term.string "RainWishes$Parser" (234 : Nat)) "java/lang/String" "value" "[B") Jvm.ClassFile.FieldType.byte) ∈ nfl := List.mem_of_getElem? (i := 324) (by decide +kernel)
set_option maxRecDepth 20000 in
theorem nf_325 : (Jvm.Cond.eq (Jvm.Term.length (Jvm.Term.field (Jvm.Term.string "RainWishes$Parser" (234 : Nat)) "java/lang/String" "value" "[B")) (Jvm.Term.int (1 : Int32))) ∈ nfl := List.mem_of_getElem? (i := 325) (by decide +kernel)
set_option maxRecDepth 20000 in
theorem nf_326 : (Jvm.Cond.eq (Jvm.Term.elem (Jvm.Term.field (Jvm.Term.string "RainWishes$Parser" (234 : Nat)) "java/lang/String" "value" "[B") (Jvm.Term.int (0 : Int32))) (Jvm.Term.int (61 : Int32))) ∈ nfl := List.mem_of_getElem? (i := 326) (by decide +kernel)
set_option maxRecDepth 20000 in
theorem nf_327 : (Jvm.Cond.exactly (Jvm.Term.string "RainWishes$Parser" (236 : Nat)) "java/lang/String") ∈ nfl := List.mem_of_getElem? (i := 327) (by decide +kernel)
set_option maxRecDepth 20000 in
theorem nf_328 : (Jvm.Cond.eq (Jvm.Term.field (Jvm.Term.string "RainWishes$Parser" (236 : Nat)) "java/lang/String" "coder" "B") (Jvm.Term.int (0 : Int32))) ∈ nfl := List.mem_of_getElem? (i := 328) (by decide +kernel)
set_option maxRecDepth 20000 in
theorem nf_329 : (Jvm.Cond.arrayOf (Jvm.Term.field (Jvm.Term.string "RainWishes$Parser" (236 : Nat)) "java/lang/String" "value" "[B") Jvm.ClassFile.FieldType.byte) ∈ nfl := List.mem_of_getElem? (i := 329) (by decide +kernel)
set_option maxRecDepth 20000 in
theorem nf_330 : (Jvm.Cond.eq (Jvm.Term.length (Jvm.Term.field (Jvm.Term.string "RainWishes$Parser" (236 : Nat)) "java/lang/String" "value" "[B")) (Jvm.Term.int (1 : Int32))) ∈ nfl := List.mem_of_getElem? (i := 330) (by decide +kernel)
set_option maxRecDepth 20000 in
theorem nf_331 : (Jvm.Cond.eq (Jvm.Term.elem (Jvm.Term.field (Jvm.Term.string "RainWishes$Parser" (236 : Nat)) "java/lang/String" "value" "[B") (Jvm.Term.int (0 : Int32))) (Jvm.Term.int (60 : Int32))) ∈ nfl := List.mem_of_getElem? (i := 331) (by decide +kernel)
set_option maxRecDepth 20000 in
theorem nf_332 : (Jvm.Cond.exactly (Jvm.Term.string "RainWishes$Parser" (238 : Nat)) "java/lang/String") ∈ nfl := List.mem_of_getElem? (i := 332) (by decide +kernel)
set_option maxRecDepth 20000 in
theorem nf_333 : (Jvm.Cond.eq (Jvm.Term.field (Jvm.Term.string "RainWishes$Parser" (238 : Nat)) "java/lang/String" "coder" "B") (Jvm.Term.int (0 : Int32))) ∈ nfl := List.mem_of_getElem? (i := 333) (by decide +kernel)
set_option maxRecDepth 20000 in
theorem nf_334 : (Jvm.Cond.arrayOf (Jvm.Term.field (Jvm.Term.string "RainWishes$Parser" (238 : Nat)) "java/lang/String" "value" "[B") Jvm.ClassFile.FieldType.byte) ∈ nfl := List.mem_of_getElem? (i := 334) (by decide +kernel)
set_option maxRecDepth 20000 in
theorem nf_335 : (Jvm.Cond.eq (Jvm.Term.length (Jvm.Term.field (Jvm.Term.string "RainWishes$Parser" (238 : Nat)) "java/lang/String" "value" "[B")) (Jvm.Term.int (1 : Int32))) ∈ nfl := List.mem_of_getElem? (i := 335) (by decide +kernel)
set_option maxRecDepth 20000 in
theorem nf_336 : (Jvm.Cond.eq (Jvm.Term.elem (Jvm.Term.field (Jvm.Term.string "RainWishes$Parser" (238 : Nat)) "java/lang/String" "value" "[B") (Jvm.Term.int (0 : Int32))) (Jvm.Term.int (62 : Int32))) ∈ nfl := List.mem_of_getElem? (i := 336) (by decide +kernel)
set_option maxRecDepth 20000 in
theorem nf_337 : (Jvm.Cond.exactly (Jvm.Term.string "RainWishes$Parser" (219 : Nat)) "java/lang/String") ∈ nfl := List.mem_of_getElem? (i := 337) (by decide +kernel)
set_option maxRecDepth 20000 in
theorem nf_338 : (Jvm.Cond.eq (Jvm.Term.field (Jvm.Term.string "RainWishes$Parser" (219 : Nat)) "java/lang/String" "coder" "B") (Jvm.Term.int (0 : Int32))) ∈ nfl := List.mem_of_getElem? (i := 338) (by decide +kernel)
set_option maxRecDepth 20000 in
theorem nf_339 : (Jvm.Cond.arrayOf (Jvm.Term.field (Jvm.Term.string "RainWishes$Parser" (219 : Nat)) "java/lang/String" "value" "[B") Jvm.ClassFile.FieldType.byte) ∈ nfl := List.mem_of_getElem? (i := 339) (by decide +kernel)
set_option maxRecDepth 20000 in
theorem nf_340 : (Jvm.Cond.eq (Jvm.Term.length (Jvm.Term.field (Jvm.Term.string "RainWishes$Parser" (219 : Nat)) "java/lang/String" "value" "[B")) (Jvm.Term.int (3 : Int32))) ∈ nfl := List.mem_of_getElem? (i := 340) (by decide +kernel)
set_option maxRecDepth 20000 in
theorem nf_341 : (Jvm.Cond.eq (Jvm.Term.elem (Jvm.Term.field (Jvm.Term.string "RainWishes$Parser" (219 : Nat)) "java/lang/String" "value" "[B") (Jvm.Term.int (0 : Int32))) (Jvm.Term.int (97 : Int32))) ∈ nfl := List.mem_of_getElem? (i := 341) (by decide +kernel)
set_option maxRecDepth 20000 in
theorem nf_342 : (Jvm.Cond.eq (Jvm.Term.elem (Jvm.Term.field (Jvm.Term.string "RainWishes$Parser" (219 : Nat)) "java/lang/String" "value" "[B") (Jvm.Term.int (1 : Int32))) (Jvm.Term.int (110 : Int32))) ∈ nfl := List.mem_of_getElem? (i := 342) (by decide +kernel)
set_option maxRecDepth 20000 in
theorem nf_343 : (Jvm.Cond.eq (Jvm.Term.elem (Jvm.Term.field (Jvm.Term.string "RainWishes$Parser" (219 : Nat)) "java/lang/String" "value" "[B") (Jvm.Term.int (2 : Int32))) (Jvm.Term.int (100 : Int32))) ∈ nfl := List.mem_of_getElem? (i := 343) (by decide +kernel)
set_option maxRecDepth 20000 in
theorem nf_344 : (Jvm.Cond.exactly (Jvm.Term.string "RainWishes$Parser" (221 : Nat)) "java/lang/String") ∈ nfl := List.mem_of_getElem? (i := 344) (by decide +kernel)
set_option maxRecDepth 20000 in
theorem nf_345 : (Jvm.Cond.eq (Jvm.Term.field (Jvm.Term.string "RainWishes$Parser" (221 : Nat)) "java/lang/String" "coder" "B") (Jvm.Term.int (0 : Int32))) ∈ nfl := List.mem_of_getElem? (i := 345) (by decide +kernel)
set_option maxRecDepth 20000 in
theorem nf_346 : (Jvm.Cond.arrayOf (Jvm.Term.field (Jvm.Term.string "RainWishes$Parser" (221 : Nat)) "java/lang/String" "value" "[B") Jvm.ClassFile.FieldType.byte) ∈ nfl := List.mem_of_getElem? (i := 346) (by decide +kernel)
set_option maxRecDepth 20000 in
theorem nf_347 : (Jvm.Cond.eq (Jvm.Term.length (Jvm.Term.field (Jvm.Term.string "RainWishes$Parser" (221 : Nat)) "java/lang/String" "value" "[B")) (Jvm.Term.int (2 : Int32))) ∈ nfl := List.mem_of_getElem? (i := 347) (by decide +kernel)
set_option maxRecDepth 20000 in
theorem nf_348 : (Jvm.Cond.eq (Jvm.Term.elem (Jvm.Term.field (Jvm.Term.string "RainWishes$Parser" (221 : Nat)) "java/lang/String" "value" "[B") (Jvm.Term.int (0 : Int32))) (Jvm.Term.int (111 : Int32))) ∈ nfl := List.mem_of_getElem? (i := 348) (by decide +kernel)
set_option maxRecDepth 20000 in
theorem nf_349 : (Jvm.Cond.eq (Jvm.Term.elem (Jvm.Term.field (Jvm.Term.string "RainWishes$Parser" (221 : Nat)) "java/lang/String" "value" "[B") (Jvm.Term.int (1 : Int32))) (Jvm.Term.int (114 : Int32))) ∈ nfl := List.mem_of_getElem? (i := 349) (by decide +kernel)
set_option maxRecDepth 20000 in
theorem nf_350 : (Jvm.Cond.exactly (Jvm.Term.string "RainWishes$Parser" (223 : Nat)) "java/lang/String") ∈ nfl := List.mem_of_getElem? (i := 350) (by decide +kernel)
set_option maxRecDepth 20000 in
theorem nf_351 : (Jvm.Cond.eq (Jvm.Term.field (Jvm.Term.string "RainWishes$Parser" (223 : Nat)) "java/lang/String" "coder" "B") (Jvm.Term.int (0 : Int32))) ∈ nfl := List.mem_of_getElem? (i := 351) (by decide +kernel)
set_option maxRecDepth 20000 in
theorem nf_352 : (Jvm.Cond.arrayOf (Jvm.Term.field (Jvm.Term.string "RainWishes$Parser" (223 : Nat)) "java/lang/String" "value" "[B") Jvm.ClassFile.FieldType.byte) ∈ nfl := List.mem_of_getElem? (i := 352) (by decide +kernel)
set_option maxRecDepth 20000 in
theorem nf_353 : (Jvm.Cond.eq (Jvm.Term.length (Jvm.Term.field (Jvm.Term.string "RainWishes$Parser" (223 : Nat)) "java/lang/String" "value" "[B")) (Jvm.Term.int (1 : Int32))) ∈ nfl := List.mem_of_getElem? (i := 353) (by decide +kernel)
set_option maxRecDepth 20000 in
theorem nf_354 : (Jvm.Cond.eq (Jvm.Term.elem (Jvm.Term.field (Jvm.Term.string "RainWishes$Parser" (223 : Nat)) "java/lang/String" "value" "[B") (Jvm.Term.int (0 : Int32))) (Jvm.Term.int (93 : Int32))) ∈ nfl := List.mem_of_getElem? (i := 354) (by decide +kernel)
set_option maxRecDepth 20000 in
theorem nf_355 : (Jvm.Cond.exactly (Jvm.Term.string "RainWishes" (203 : Nat)) "java/lang/String") ∈ nfl := List.mem_of_getElem? (i := 355) (by decide +kernel)
set_option maxRecDepth 20000 in
theorem nf_356 : (Jvm.Cond.eq (Jvm.Term.field (Jvm.Term.string "RainWishes" (203 : Nat)) "java/lang/String" "coder" "B") (Jvm.Term.int (0 : Int32))) ∈ nfl := List.mem_of_getElem? (i := 356) (by decide +kernel)
set_option maxRecDepth 20000 in
theorem nf_357 : (Jvm.Cond.arrayOf (Jvm.Term.field (Jvm.Term.string "RainWishes" (203 : Nat)) "java/lang/String" "value" "[B") Jvm.ClassFile.FieldType.byte) ∈ nfl := List.mem_of_getElem? (i := 357) (by decide +kernel)
set_option maxRecDepth 20000 in
theorem nf_358 : (Jvm.Cond.eq (Jvm.Term.length (Jvm.Term.field (Jvm.Term.string "RainWishes" (203 : Nat)) "java/lang/String" "value" "[B")) (Jvm.Term.int (12 : Int32))) ∈ nfl := List.mem_of_getElem? (i := 358) (by decide +kernel)
set_option maxRecDepth 20000 in
theorem nf_359 : (Jvm.Cond.eq (Jvm.Term.elem (Jvm.Term.field (Jvm.Term.string "RainWishes" (203 : Nat)) "java/lang/String" "value" "[B") (Jvm.Term.int (0 : Int32))) (Jvm.Term.int (110 : Int32))) ∈ nfl := List.mem_of_getElem? (i := 359) (by decide +kernel)
set_option maxRecDepth 20000 in
theorem nf_360 : (Jvm.Cond.eq (Jvm.Term.elem (Jvm.Term.field (Jvm.Term.string "RainWishes" (203 : Nat)) "java/lang/String" "value" "[B") (Jvm.Term.int (1 : Int32))) (Jvm.Term.int (111 : Int32))) ∈ nfl := List.mem_of_getElem? (i := 360) (by decide +kernel)
set_option maxRecDepth 20000 in
theorem nf_361 : (Jvm.Cond.eq (Jvm.Term.elem (Jvm.Term.field (Jvm.Term.string "RainWishes" (203 : Nat)) "java/lang/String" "value" "[B") (Jvm.Term.int (2 : Int32))) (Jvm.Term.int (32 : Int32))) ∈ nfl := List.mem_of_getElem? (i := 361) (by decide +kernel)
set_option maxRecDepth 20000 in
theorem nf_362 : (Jvm.Cond.eq (Jvm.Term.elem (Jvm.Term.field (Jvm.Term.string "RainWishes" (203 : Nat)) "java/lang/String" "value" "[B") (Jvm.Term.int (3 : Int32))) (Jvm.Term.int (115 : Int32))) ∈ nfl := List.mem_of_getElem? (i := 362) (by decide +kernel)
set_option maxRecDepth 20000 in
theorem nf_363 : (Jvm.Cond.eq (Jvm.Term.elem (Jvm.Term.field (Jvm.Term.string "RainWishes" (203 : Nat)) "java/lang/String" "value" "[B") (Jvm.Term.int (4 : Int32))) (Jvm.Term.int (117 : Int32))) ∈ nfl := List.mem_of_getElem? (i := 363) (by decide +kernel)
set_option maxRecDepth 20000 in
theorem nf_364 : (Jvm.Cond.eq (Jvm.Term.elem (Jvm.Term.field (Jvm.Term.string "RainWishes" (203 : Nat)) "java/lang/String" "value" "[B") (Jvm.Term.int (5 : Int32))) (Jvm.Term.int (99 : Int32))) ∈ nfl := List.mem_of_getElem? (i := 364) (by decide +kernel)
set_option maxRecDepth 20000 in
theorem nf_365 : (Jvm.Cond.eq (Jvm.Term.elem (Jvm.Term.field (Jvm.Term.string "RainWishes" (203 : Nat)) "java/lang/String" "value" "[B") (Jvm.Term.int (6 : Int32))) (Jvm.Term.int (104 : Int32))) ∈ nfl := List.mem_of_getElem? (i := 365) (by decide +kernel)
set_option maxRecDepth 20000 in
theorem nf_366 : (Jvm.Cond.eq (Jvm.Term.elem (Jvm.Term.field (Jvm.Term.string "RainWishes" (203 : Nat)) "java/lang/String" "value" "[B") (Jvm.Term.int (7 : Int32))) (Jvm.Term.int (32 : Int32))) ∈ nfl := List.mem_of_getElem? (i := 366) (by decide +kernel)
set_option maxRecDepth 20000 in
theorem nf_367 : (Jvm.Cond.eq (Jvm.Term.elem (Jvm.Term.field (Jvm.Term.string "RainWishes" (203 : Nat)) "java/lang/String" "value" "[B") (Jvm.Term.int (8 : Int32))) (Jvm.Term.int (119 : Int32))) ∈ nfl := List.mem_of_getElem? (i := 367) (by decide +kernel)
set_option maxRecDepth 20000 in
theorem nf_368 : (Jvm.Cond.eq (Jvm.Term.elem (Jvm.Term.field (Jvm.Term.string "RainWishes" (203 : Nat)) "java/lang/String" "value" "[B") (Jvm.Term.int (9 : Int32))) (Jvm.Term.int (105 : Int32))) ∈ nfl := List.mem_of_getElem? (i := 368) (by decide +kernel)
set_option maxRecDepth 20000 in
theorem nf_369 : (Jvm.Cond.eq (Jvm.Term.elem (Jvm.Term.field (Jvm.Term.string "RainWishes" (203 : Nat)) "java/lang/String" "value" "[B") (Jvm.Term.int (10 : Int32))) (Jvm.Term.int (115 : Int32))) ∈ nfl := List.mem_of_getElem? (i := 369) (by decide +kernel)
set_option maxRecDepth 20000 in
theorem nf_370 : (Jvm.Cond.eq (Jvm.Term.elem (Jvm.Term.field (Jvm.Term.string "RainWishes" (203 : Nat)) "java/lang/String" "value" "[B") (Jvm.Term.int (11 : Int32))) (Jvm.Term.int (104 : Int32))) ∈ nfl := List.mem_of_getElem? (i := 370) (by decide +kernel)
set_option maxRecDepth 20000 in
theorem nf_371 : (Jvm.Cond.exactly (Jvm.Term.string "RainWishes" (175 : Nat)) "java/lang/String") ∈ nfl := List.mem_of_getElem? (i := 371) (by decide +kernel)
set_option maxRecDepth 20000 in
theorem nf_372 : (Jvm.Cond.eq (Jvm.Term.field (Jvm.Term.string "RainWishes" (175 : Nat)) "java/lang/String" "coder" "B") (Jvm.Term.int (0 : Int32))) ∈ nfl := List.mem_of_getElem? (i := 372) (by decide +kernel)
set_option maxRecDepth 20000 in
theorem nf_373 : (Jvm.Cond.arrayOf (Jvm.Term.field (Jvm.Term.string "RainWishes" (175 : Nat)) "java/lang/String" "value" "[B") Jvm.ClassFile.FieldType.byte) ∈ nfl := List.mem_of_getElem? (i := 373) (by decide +kernel)
set_option maxRecDepth 20000 in
theorem nf_374 : (Jvm.Cond.eq (Jvm.Term.length (Jvm.Term.field (Jvm.Term.string "RainWishes" (175 : Nat)) "java/lang/String" "value" "[B")) (Jvm.Term.int (12 : Int32))) ∈ nfl := List.mem_of_getElem? (i := 374) (by decide +kernel)
set_option maxRecDepth 20000 in
theorem nf_375 : (Jvm.Cond.eq (Jvm.Term.elem (Jvm.Term.field (Jvm.Term.string "RainWishes" (175 : Nat)) "java/lang/String" "value" "[B") (Jvm.Term.int (0 : Int32))) (Jvm.Term.int (97 : Int32))) ∈ nfl := List.mem_of_getElem? (i := 375) (by decide +kernel)
set_option maxRecDepth 20000 in
theorem nf_376 : (Jvm.Cond.eq (Jvm.Term.elem (Jvm.Term.field (Jvm.Term.string "RainWishes" (175 : Nat)) "java/lang/String" "value" "[B") (Jvm.Term.int (1 : Int32))) (Jvm.Term.int (110 : Int32))) ∈ nfl := List.mem_of_getElem? (i := 376) (by decide +kernel)
set_option maxRecDepth 20000 in
theorem nf_377 : (Jvm.Cond.eq (Jvm.Term.elem (Jvm.Term.field (Jvm.Term.string "RainWishes" (175 : Nat)) "java/lang/String" "value" "[B") (Jvm.Term.int (2 : Int32))) (Jvm.Term.int (111 : Int32))) ∈ nfl := List.mem_of_getElem? (i := 377) (by decide +kernel)
set_option maxRecDepth 20000 in
theorem nf_378 : (Jvm.Cond.eq (Jvm.Term.elem (Jvm.Term.field (Jvm.Term.string "RainWishes" (175 : Nat)) "java/lang/String" "value" "[B") (Jvm.Term.int (3 : Int32))) (Jvm.Term.int (116 : Int32))) ∈ nfl := List.mem_of_getElem? (i := 378) (by decide +kernel)
set_option maxRecDepth 20000 in
theorem nf_379 : (Jvm.Cond.eq (Jvm.Term.elem (Jvm.Term.field (Jvm.Term.string "RainWishes" (175 : Nat)) "java/lang/String" "value" "[B") (Jvm.Term.int (4 : Int32))) (Jvm.Term.int (104 : Int32))) ∈ nfl := List.mem_of_getElem? (i := 379) (by decide +kernel)
set_option maxRecDepth 20000 in
theorem nf_380 : (Jvm.Cond.eq (Jvm.Term.elem (Jvm.Term.field (Jvm.Term.string "RainWishes" (175 : Nat)) "java/lang/String" "value" "[B") (Jvm.Term.int (5 : Int32))) (Jvm.Term.int (101 : Int32))) ∈ nfl := List.mem_of_getElem? (i := 380) (by decide +kernel)
set_option maxRecDepth 20000 in
theorem nf_381 : (Jvm.Cond.eq (Jvm.Term.elem (Jvm.Term.field (Jvm.Term.string "RainWishes" (175 : Nat)) "java/lang/String" "value" "[B") (Jvm.Term.int (6 : Int32))) (Jvm.Term.int (114 : Int32))) ∈ nfl := List.mem_of_getElem? (i := 381) (by decide +kernel)
set_option maxRecDepth 20000 in
theorem nf_382 : (Jvm.Cond.eq (Jvm.Term.elem (Jvm.Term.field (Jvm.Term.string "RainWishes" (175 : Nat)) "java/lang/String" "value" "[B") (Jvm.Term.int (7 : Int32))) (Jvm.Term.int (32 : Int32))) ∈ nfl := List.mem_of_getElem? (i := 382) (by decide +kernel)
set_option maxRecDepth 20000 in
theorem nf_383 : (Jvm.Cond.eq (Jvm.Term.elem (Jvm.Term.field (Jvm.Term.string "RainWishes" (175 : Nat)) "java/lang/String" "value" "[B") (Jvm.Term.int (8 : Int32))) (Jvm.Term.int (119 : Int32))) ∈ nfl := List.mem_of_getElem? (i := 383) (by decide +kernel)
set_option maxRecDepth 20000 in
theorem nf_384 : (Jvm.Cond.eq (Jvm.Term.elem (Jvm.Term.field (Jvm.Term.string "RainWishes" (175 : Nat)) "java/lang/String" "value" "[B") (Jvm.Term.int (9 : Int32))) (Jvm.Term.int (104 : Int32))) ∈ nfl := List.mem_of_getElem? (i := 384) (by decide +kernel)
set_option maxRecDepth 20000 in
theorem nf_385 : (Jvm.Cond.eq (Jvm.Term.elem (Jvm.Term.field (Jvm.Term.string "RainWishes" (175 : Nat)) "java/lang/String" "value" "[B") (Jvm.Term.int (10 : Int32))) (Jvm.Term.int (97 : Int32))) ∈ nfl := List.mem_of_getElem? (i := 385) (by decide +kernel)
set_option maxRecDepth 20000 in
theorem nf_386 : (Jvm.Cond.eq (Jvm.Term.elem (Jvm.Term.field (Jvm.Term.string "RainWishes" (175 : Nat)) "java/lang/String" "value" "[B") (Jvm.Term.int (11 : Int32))) (Jvm.Term.int (116 : Int32))) ∈ nfl := List.mem_of_getElem? (i := 386) (by decide +kernel)
set_option maxRecDepth 20000 in
theorem nf_387 : (Jvm.Cond.exactly (Jvm.Term.string "RainWishes" (211 : Nat)) "java/lang/String") ∈ nfl := List.mem_of_getElem? (i := 387) (by decide +kernel)
set_option maxRecDepth 20000 in
theorem nf_388 : (Jvm.Cond.eq (Jvm.Term.field (Jvm.Term.string "RainWishes" (211 : Nat)) "java/lang/String" "coder" "B") (Jvm.Term.int (0 : Int32))) ∈ nfl := List.mem_of_getElem? (i := 388) (by decide +kernel)
set_option maxRecDepth 20000 in
theorem nf_389 : (Jvm.Cond.arrayOf (Jvm.Term.field (Jvm.Term.string "RainWishes" (211 : Nat)) "java/lang/String" "value" "[B") Jvm.ClassFile.FieldType.byte) ∈ nfl := List.mem_of_getElem? (i := 389) (by decide +kernel)
set_option maxRecDepth 20000 in
theorem nf_390 : (Jvm.Cond.eq (Jvm.Term.length (Jvm.Term.field (Jvm.Term.string "RainWishes" (211 : Nat)) "java/lang/String" "value" "[B")) (Jvm.Term.int (17 : Int32))) ∈ nfl := List.mem_of_getElem? (i := 390) (by decide +kernel)
set_option maxRecDepth 20000 in
theorem nf_391 : (Jvm.Cond.eq (Jvm.Term.elem (Jvm.Term.field (Jvm.Term.string "RainWishes" (211 : Nat)) "java/lang/String" "value" "[B") (Jvm.Term.int (0 : Int32))) (Jvm.Term.int (111 : Int32))) ∈ nfl := List.mem_of_getElem? (i := 391) (by decide +kernel)
set_option maxRecDepth 20000 in
theorem nf_392 : (Jvm.Cond.eq (Jvm.Term.elem (Jvm.Term.field (Jvm.Term.string "RainWishes" (211 : Nat)) "java/lang/String" "value" "[B") (Jvm.Term.int (1 : Int32))) (Jvm.Term.int (116 : Int32))) ∈ nfl := List.mem_of_getElem? (i := 392) (by decide +kernel)
set_option maxRecDepth 20000 in
theorem nf_393 : (Jvm.Cond.eq (Jvm.Term.elem (Jvm.Term.field (Jvm.Term.string "RainWishes" (211 : Nat)) "java/lang/String" "value" "[B") (Jvm.Term.int (2 : Int32))) (Jvm.Term.int (104 : Int32))) ∈ nfl := List.mem_of_getElem? (i := 393) (by decide +kernel)
set_option maxRecDepth 20000 in
theorem nf_394 : (Jvm.Cond.eq (Jvm.Term.elem (Jvm.Term.field (Jvm.Term.string "RainWishes" (211 : Nat)) "java/lang/String" "value" "[B") (Jvm.Term.int (3 : Int32))) (Jvm.Term.int (101 : Int32))) ∈ nfl := List.mem_of_getElem? (i := 394) (by decide +kernel)
set_option maxRecDepth 20000 in
theorem nf_395 : (Jvm.Cond.eq (Jvm.Term.elem (Jvm.Term.field (Jvm.Term.string "RainWishes" (211 : Nat)) "java/lang/String" "value" "[B") (Jvm.Term.int (4 : Int32))) (Jvm.Term.int (114 : Int32))) ∈ nfl := List.mem_of_getElem? (i := 395) (by decide +kernel)
set_option maxRecDepth 20000 in
theorem nf_396 : (Jvm.Cond.eq (Jvm.Term.elem (Jvm.Term.field (Jvm.Term.string "RainWishes" (211 : Nat)) "java/lang/String" "value" "[B") (Jvm.Term.int (5 : Int32))) (Jvm.Term.int (115 : Int32))) ∈ nfl := List.mem_of_getElem? (i := 396) (by decide +kernel)
set_option maxRecDepth 20000 in
theorem nf_397 : (Jvm.Cond.eq (Jvm.Term.elem (Jvm.Term.field (Jvm.Term.string "RainWishes" (211 : Nat)) "java/lang/String" "value" "[B") (Jvm.Term.int (6 : Int32))) (Jvm.Term.int (32 : Int32))) ∈ nfl := List.mem_of_getElem? (i := 397) (by decide +kernel)
set_option maxRecDepth 20000 in
theorem nf_398 : (Jvm.Cond.eq (Jvm.Term.elem (Jvm.Term.field (Jvm.Term.string "RainWishes" (211 : Nat)) "java/lang/String" "value" "[B") (Jvm.Term.int (7 : Int32))) (Jvm.Term.int (116 : Int32))) ∈ nfl := List.mem_of_getElem? (i := 398) (by decide +kernel)
set_option maxRecDepth 20000 in
theorem nf_399 : (Jvm.Cond.eq (Jvm.Term.elem (Jvm.Term.field (Jvm.Term.string "RainWishes" (211 : Nat)) "java/lang/String" "value" "[B") (Jvm.Term.int (8 : Int32))) (Jvm.Term.int (104 : Int32))) ∈ nfl := List.mem_of_getElem? (i := 399) (by decide +kernel)
set_option maxRecDepth 20000 in
theorem nf_400 : (Jvm.Cond.eq (Jvm.Term.elem (Jvm.Term.field (Jvm.Term.string "RainWishes" (211 : Nat)) "java/lang/String" "value" "[B") (Jvm.Term.int (9 : Int32))) (Jvm.Term.int (97 : Int32))) ∈ nfl := List.mem_of_getElem? (i := 400) (by decide +kernel)
set_option maxRecDepth 20000 in
theorem nf_401 : (Jvm.Cond.eq (Jvm.Term.elem (Jvm.Term.field (Jvm.Term.string "RainWishes" (211 : Nat)) "java/lang/String" "value" "[B") (Jvm.Term.int (10 : Int32))) (Jvm.Term.int (110 : Int32))) ∈ nfl := List.mem_of_getElem? (i := 401) (by decide +kernel)
set_option maxRecDepth 20000 in
theorem nf_402 : (Jvm.Cond.eq (Jvm.Term.elem (Jvm.Term.field (Jvm.Term.string "RainWishes" (211 : Nat)) "java/lang/String" "value" "[B") (Jvm.Term.int (11 : Int32))) (Jvm.Term.int (32 : Int32))) ∈ nfl := List.mem_of_getElem? (i := 402) (by decide +kernel)
set_option maxRecDepth 20000 in
theorem nf_403 : (Jvm.Cond.eq (Jvm.Term.elem (Jvm.Term.field (Jvm.Term.string "RainWishes" (211 : Nat)) "java/lang/String" "value" "[B") (Jvm.Term.int (12 : Int32))) (Jvm.Term.int (99 : Int32))) ∈ nfl := List.mem_of_getElem? (i := 403) (by decide +kernel)
set_option maxRecDepth 20000 in
theorem nf_404 : (Jvm.Cond.eq (Jvm.Term.elem (Jvm.Term.field (Jvm.Term.string "RainWishes" (211 : Nat)) "java/lang/String" "value" "[B") (Jvm.Term.int (13 : Int32))) (Jvm.Term.int (101 : Int32))) ∈ nfl := List.mem_of_getElem? (i := 404) (by decide +kernel)
set_option maxRecDepth 20000 in
theorem nf_405 : (Jvm.Cond.eq (Jvm.Term.elem (Jvm.Term.field (Jvm.Term.string "RainWishes" (211 : Nat)) "java/lang/String" "value" "[B") (Jvm.Term.int (14 : Int32))) (Jvm.Term.int (108 : Int32))) ∈ nfl := List.mem_of_getElem? (i := 405) (by decide +kernel)
set_option maxRecDepth 20000 in
theorem nf_406 : (Jvm.Cond.eq (Jvm.Term.elem (Jvm.Term.field (Jvm.Term.string "RainWishes" (211 : Nat)) "java/lang/String" "value" "[B") (Jvm.Term.int (15 : Int32))) (Jvm.Term.int (108 : Int32))) ∈ nfl := List.mem_of_getElem? (i := 406) (by decide +kernel)
set_option maxRecDepth 20000 in
theorem nf_407 : (Jvm.Cond.eq (Jvm.Term.elem (Jvm.Term.field (Jvm.Term.string "RainWishes" (211 : Nat)) "java/lang/String" "value" "[B") (Jvm.Term.int (16 : Int32))) (Jvm.Term.int (115 : Int32))) ∈ nfl := List.mem_of_getElem? (i := 407) (by decide +kernel)
set_option maxRecDepth 20000 in
theorem nf_408 : (Jvm.Cond.exactly (Jvm.Term.string "RainWishes" (213 : Nat)) "java/lang/String") ∈ nfl := List.mem_of_getElem? (i := 408) (by decide +kernel)
set_option maxRecDepth 20000 in
theorem nf_409 : (Jvm.Cond.eq (Jvm.Term.field (Jvm.Term.string "RainWishes" (213 : Nat)) "java/lang/String" "coder" "B") (Jvm.Term.int (0 : Int32))) ∈ nfl := List.mem_of_getElem? (i := 409) (by decide +kernel)
set_option maxRecDepth 20000 in
theorem nf_410 : (Jvm.Cond.arrayOf (Jvm.Term.field (Jvm.Term.string "RainWishes" (213 : Nat)) "java/lang/String" "value" "[B") Jvm.ClassFile.FieldType.byte) ∈ nfl := List.mem_of_getElem? (i := 410) (by decide +kernel)
set_option maxRecDepth 20000 in
theorem nf_411 : (Jvm.Cond.eq (Jvm.Term.length (Jvm.Term.field (Jvm.Term.string "RainWishes" (213 : Nat)) "java/lang/String" "value" "[B")) (Jvm.Term.int (23 : Int32))) ∈ nfl := List.mem_of_getElem? (i := 411) (by decide +kernel)
set_option maxRecDepth 20000 in
theorem nf_412 : (Jvm.Cond.eq (Jvm.Term.elem (Jvm.Term.field (Jvm.Term.string "RainWishes" (213 : Nat)) "java/lang/String" "value" "[B") (Jvm.Term.int (0 : Int32))) (Jvm.Term.int (111 : Int32))) ∈ nfl := List.mem_of_getElem? (i := 412) (by decide +kernel)
set_option maxRecDepth 20000 in
theorem nf_413 : (Jvm.Cond.eq (Jvm.Term.elem (Jvm.Term.field (Jvm.Term.string "RainWishes" (213 : Nat)) "java/lang/String" "value" "[B") (Jvm.Term.int (1 : Int32))) (Jvm.Term.int (116 : Int32))) ∈ nfl := List.mem_of_getElem? (i := 413) (by decide +kernel)
set_option maxRecDepth 20000 in
theorem nf_414 : (Jvm.Cond.eq (Jvm.Term.elem (Jvm.Term.field (Jvm.Term.string "RainWishes" (213 : Nat)) "java/lang/String" "value" "[B") (Jvm.Term.int (2 : Int32))) (Jvm.Term.int (104 : Int32))) ∈ nfl := List.mem_of_getElem? (i := 414) (by decide +kernel)
set_option maxRecDepth 20000 in
theorem nf_415 : (Jvm.Cond.eq (Jvm.Term.elem (Jvm.Term.field (Jvm.Term.string "RainWishes" (213 : Nat)) "java/lang/String" "value" "[B") (Jvm.Term.int (3 : Int32))) (Jvm.Term.int (101 : Int32))) ∈ nfl := List.mem_of_getElem? (i := 415) (by decide +kernel)
set_option maxRecDepth 20000 in
theorem nf_416 : (Jvm.Cond.eq (Jvm.Term.elem (Jvm.Term.field (Jvm.Term.string "RainWishes" (213 : Nat)) "java/lang/String" "value" "[B") (Jvm.Term.int (4 : Int32))) (Jvm.Term.int (114 : Int32))) ∈ nfl := List.mem_of_getElem? (i := 416) (by decide +kernel)
set_option maxRecDepth 20000 in
theorem nf_417 : (Jvm.Cond.eq (Jvm.Term.elem (Jvm.Term.field (Jvm.Term.string "RainWishes" (213 : Nat)) "java/lang/String" "value" "[B") (Jvm.Term.int (5 : Int32))) (Jvm.Term.int (115 : Int32))) ∈ nfl := List.mem_of_getElem? (i := 417) (by decide +kernel)
set_option maxRecDepth 20000 in
theorem nf_418 : (Jvm.Cond.eq (Jvm.Term.elem (Jvm.Term.field (Jvm.Term.string "RainWishes" (213 : Nat)) "java/lang/String" "value" "[B") (Jvm.Term.int (6 : Int32))) (Jvm.Term.int (32 : Int32))) ∈ nfl := List.mem_of_getElem? (i := 418) (by decide +kernel)
set_option maxRecDepth 20000 in
theorem nf_419 : (Jvm.Cond.eq (Jvm.Term.elem (Jvm.Term.field (Jvm.Term.string "RainWishes" (213 : Nat)) "java/lang/String" "value" "[B") (Jvm.Term.int (7 : Int32))) (Jvm.Term.int (116 : Int32))) ∈ nfl := List.mem_of_getElem? (i := 419) (by decide +kernel)
set_option maxRecDepth 20000 in
theorem nf_420 : (Jvm.Cond.eq (Jvm.Term.elem (Jvm.Term.field (Jvm.Term.string "RainWishes" (213 : Nat)) "java/lang/String" "value" "[B") (Jvm.Term.int (8 : Int32))) (Jvm.Term.int (104 : Int32))) ∈ nfl := List.mem_of_getElem? (i := 420) (by decide +kernel)
set_option maxRecDepth 20000 in
theorem nf_421 : (Jvm.Cond.eq (Jvm.Term.elem (Jvm.Term.field (Jvm.Term.string "RainWishes" (213 : Nat)) "java/lang/String" "value" "[B") (Jvm.Term.int (9 : Int32))) (Jvm.Term.int (97 : Int32))) ∈ nfl := List.mem_of_getElem? (i := 421) (by decide +kernel)
set_option maxRecDepth 20000 in
theorem nf_422 : (Jvm.Cond.eq (Jvm.Term.elem (Jvm.Term.field (Jvm.Term.string "RainWishes" (213 : Nat)) "java/lang/String" "value" "[B") (Jvm.Term.int (10 : Int32))) (Jvm.Term.int (110 : Int32))) ∈ nfl := List.mem_of_getElem? (i := 422) (by decide +kernel)
set_option maxRecDepth 20000 in
theorem nf_423 : (Jvm.Cond.eq (Jvm.Term.elem (Jvm.Term.field (Jvm.Term.string "RainWishes" (213 : Nat)) "java/lang/String" "value" "[B") (Jvm.Term.int (11 : Int32))) (Jvm.Term.int (32 : Int32))) ∈ nfl := List.mem_of_getElem? (i := 423) (by decide +kernel)
set_option maxRecDepth 20000 in
theorem nf_424 : (Jvm.Cond.eq (Jvm.Term.elem (Jvm.Term.field (Jvm.Term.string "RainWishes" (213 : Nat)) "java/lang/String" "value" "[B") (Jvm.Term.int (12 : Int32))) (Jvm.Term.int (111 : Int32))) ∈ nfl := List.mem_of_getElem? (i := 424) (by decide +kernel)
set_option maxRecDepth 20000 in
theorem nf_425 : (Jvm.Cond.eq (Jvm.Term.elem (Jvm.Term.field (Jvm.Term.string "RainWishes" (213 : Nat)) "java/lang/String" "value" "[B") (Jvm.Term.int (13 : Int32))) (Jvm.Term.int (112 : Int32))) ∈ nfl := List.mem_of_getElem? (i := 425) (by decide +kernel)
set_option maxRecDepth 20000 in
theorem nf_426 : (Jvm.Cond.eq (Jvm.Term.elem (Jvm.Term.field (Jvm.Term.string "RainWishes" (213 : Nat)) "java/lang/String" "value" "[B") (Jvm.Term.int (14 : Int32))) (Jvm.Term.int (101 : Int32))) ∈ nfl := List.mem_of_getElem? (i := 426) (by decide +kernel)
set_option maxRecDepth 20000 in
theorem nf_427 : (Jvm.Cond.eq (Jvm.Term.elem (Jvm.Term.field (Jvm.Term.string "RainWishes" (213 : Nat)) "java/lang/String" "value" "[B") (Jvm.Term.int (15 : Int32))) (Jvm.Term.int (110 : Int32))) ∈ nfl := List.mem_of_getElem? (i := 427) (by decide +kernel)
set_option maxRecDepth 20000 in
theorem nf_428 : (Jvm.Cond.eq (Jvm.Term.elem (Jvm.Term.field (Jvm.Term.string "RainWishes" (213 : Nat)) "java/lang/String" "value" "[B") (Jvm.Term.int (16 : Int32))) (Jvm.Term.int (32 : Int32))) ∈ nfl := List.mem_of_getElem? (i := 428) (by decide +kernel)
set_option maxRecDepth 20000 in
theorem nf_429 : (Jvm.Cond.eq (Jvm.Term.elem (Jvm.Term.field (Jvm.Term.string "RainWishes" (213 : Nat)) "java/lang/String" "value" "[B") (Jvm.Term.int (17 : Int32))) (Jvm.Term.int (119 : Int32))) ∈ nfl := List.mem_of_getElem? (i := 429) (by decide +kernel)
set_option maxRecDepth 20000 in
theorem nf_430 : (Jvm.Cond.eq (Jvm.Term.elem (Jvm.Term.field (Jvm.Term.string "RainWishes" (213 : Nat)) "java/lang/String" "value" "[B") (Jvm.Term.int (18 : Int32))) (Jvm.Term.int (105 : Int32))) ∈ nfl := List.mem_of_getElem? (i := 430) (by decide +kernel)
set_option maxRecDepth 20000 in
theorem nf_431 : (Jvm.Cond.eq (Jvm.Term.elem (Jvm.Term.field (Jvm.Term.string "RainWishes" (213 : Nat)) "java/lang/String" "value" "[B") (Jvm.Term.int (19 : Int32))) (Jvm.Term.int (115 : Int32))) ∈ nfl := List.mem_of_getElem? (i := 431) (by decide +kernel)
set_option maxRecDepth 20000 in
theorem nf_432 : (Jvm.Cond.eq (Jvm.Term.elem (Jvm.Term.field (Jvm.Term.string "RainWishes" (213 : Nat)) "java/lang/String" "value" "[B") (Jvm.Term.int (20 : Int32))) (Jvm.Term.int (104 : Int32))) ∈ nfl := List.mem_of_getElem? (i := 432) (by decide +kernel)
set_option maxRecDepth 20000 in
theorem nf_433 : (Jvm.Cond.eq (Jvm.Term.elem (Jvm.Term.field (Jvm.Term.string "RainWishes" (213 : Nat)) "java/lang/String" "value" "[B") (Jvm.Term.int (21 : Int32))) (Jvm.Term.int (101 : Int32))) ∈ nfl := List.mem_of_getElem? (i := 433) (by decide +kernel)
set_option maxRecDepth 20000 in
theorem nf_434 : (Jvm.Cond.eq (Jvm.Term.elem (Jvm.Term.field (Jvm.Term.string "RainWishes" (213 : Nat)) "java/lang/String" "value" "[B") (Jvm.Term.int (22 : Int32))) (Jvm.Term.int (115 : Int32))) ∈ nfl := List.mem_of_getElem? (i := 434) (by decide +kernel)
set_option maxRecDepth 20000 in
theorem nf_435 : (Jvm.Cond.exactly (Jvm.Term.string "RainWishes" (206 : Nat)) "java/lang/String") ∈ nfl := List.mem_of_getElem? (i := 435) (by decide +kernel)
set_option maxRecDepth 20000 in
theorem nf_436 : (Jvm.Cond.eq (Jvm.Term.field (Jvm.Term.string "RainWishes" (206 : Nat)) "java/lang/String" "coder" "B") (Jvm.Term.int (0 : Int32))) ∈ nfl := List.mem_of_getElem? (i := 436) (by decide +kernel)
set_option maxRecDepth 20000 in
theorem nf_437 : (Jvm.Cond.arrayOf (Jvm.Term.field (Jvm.Term.string "RainWishes" (206 : Nat)) "java/lang/String" "value" "[B") Jvm.ClassFile.FieldType.byte) ∈ nfl := List.mem_of_getElem? (i := 437) (by decide +kernel)
set_option maxRecDepth 20000 in
theorem nf_438 : (Jvm.Cond.eq (Jvm.Term.length (Jvm.Term.field (Jvm.Term.string "RainWishes" (206 : Nat)) "java/lang/String" "value" "[B")) (Jvm.Term.int (20 : Int32))) ∈ nfl := List.mem_of_getElem? (i := 438) (by decide +kernel)
set_option maxRecDepth 20000 in
theorem nf_439 : (Jvm.Cond.eq (Jvm.Term.elem (Jvm.Term.field (Jvm.Term.string "RainWishes" (206 : Nat)) "java/lang/String" "value" "[B") (Jvm.Term.int (0 : Int32))) (Jvm.Term.int (116 : Int32))) ∈ nfl := List.mem_of_getElem? (i := 439) (by decide +kernel)
set_option maxRecDepth 20000 in
theorem nf_440 : (Jvm.Cond.eq (Jvm.Term.elem (Jvm.Term.field (Jvm.Term.string "RainWishes" (206 : Nat)) "java/lang/String" "value" "[B") (Jvm.Term.int (1 : Int32))) (Jvm.Term.int (104 : Int32))) ∈ nfl := List.mem_of_getElem? (i := 440) (by decide +kernel)
set_option maxRecDepth 20000 in
theorem nf_441 : (Jvm.Cond.eq (Jvm.Term.elem (Jvm.Term.field (Jvm.Term.string "RainWishes" (206 : Nat)) "java/lang/String" "value" "[B") (Jvm.Term.int (2 : Int32))) (Jvm.Term.int (101 : Int32))) ∈ nfl := List.mem_of_getElem? (i := 441) (by decide +kernel)
set_option maxRecDepth 20000 in
theorem nf_442 : (Jvm.Cond.eq (Jvm.Term.elem (Jvm.Term.field (Jvm.Term.string "RainWishes" (206 : Nat)) "java/lang/String" "value" "[B") (Jvm.Term.int (3 : Int32))) (Jvm.Term.int (32 : Int32))) ∈ nfl := List.mem_of_getElem? (i := 442) (by decide +kernel)
set_option maxRecDepth 20000 in
theorem nf_443 : (Jvm.Cond.eq (Jvm.Term.elem (Jvm.Term.field (Jvm.Term.string "RainWishes" (206 : Nat)) "java/lang/String" "value" "[B") (Jvm.Term.int (4 : Int32))) (Jvm.Term.int (119 : Int32))) ∈ nfl := List.mem_of_getElem? (i := 443) (by decide +kernel)
set_option maxRecDepth 20000 in
theorem nf_444 : (Jvm.Cond.eq (Jvm.Term.elem (Jvm.Term.field (Jvm.Term.string "RainWishes" (206 : Nat)) "java/lang/String" "value" "[B") (Jvm.Term.int (5 : Int32))) (Jvm.Term.int (105 : Int32))) ∈ nfl := List.mem_of_getElem? (i := 444) (by decide +kernel)
set_option maxRecDepth 20000 in
theorem nf_445 : (Jvm.Cond.eq (Jvm.Term.elem (Jvm.Term.field (Jvm.Term.string "RainWishes" (206 : Nat)) "java/lang/String" "value" "[B") (Jvm.Term.int (6 : Int32))) (Jvm.Term.int (115 : Int32))) ∈ nfl := List.mem_of_getElem? (i := 445) (by decide +kernel)
set_option maxRecDepth 20000 in
theorem nf_446 : (Jvm.Cond.eq (Jvm.Term.elem (Jvm.Term.field (Jvm.Term.string "RainWishes" (206 : Nat)) "java/lang/String" "value" "[B") (Jvm.Term.int (7 : Int32))) (Jvm.Term.int (104 : Int32))) ∈ nfl := List.mem_of_getElem? (i := 446) (by decide +kernel)
set_option maxRecDepth 20000 in
theorem nf_447 : (Jvm.Cond.eq (Jvm.Term.elem (Jvm.Term.field (Jvm.Term.string "RainWishes" (206 : Nat)) "java/lang/String" "value" "[B") (Jvm.Term.int (8 : Int32))) (Jvm.Term.int (32 : Int32))) ∈ nfl := List.mem_of_getElem? (i := 447) (by decide +kernel)
set_option maxRecDepth 20000 in
theorem nf_448 : (Jvm.Cond.eq (Jvm.Term.elem (Jvm.Term.field (Jvm.Term.string "RainWishes" (206 : Nat)) "java/lang/String" "value" "[B") (Jvm.Term.int (9 : Int32))) (Jvm.Term.int (105 : Int32))) ∈ nfl := List.mem_of_getElem? (i := 448) (by decide +kernel)
set_option maxRecDepth 20000 in
theorem nf_449 : (Jvm.Cond.eq (Jvm.Term.elem (Jvm.Term.field (Jvm.Term.string "RainWishes" (206 : Nat)) "java/lang/String" "value" "[B") (Jvm.Term.int (10 : Int32))) (Jvm.Term.int (115 : Int32))) ∈ nfl := List.mem_of_getElem? (i := 449) (by decide +kernel)
set_option maxRecDepth 20000 in
theorem nf_450 : (Jvm.Cond.eq (Jvm.Term.elem (Jvm.Term.field (Jvm.Term.string "RainWishes" (206 : Nat)) "java/lang/String" "value" "[B") (Jvm.Term.int (11 : Int32))) (Jvm.Term.int (32 : Int32))) ∈ nfl := List.mem_of_getElem? (i := 450) (by decide +kernel)
set_option maxRecDepth 20000 in
theorem nf_451 : (Jvm.Cond.eq (Jvm.Term.elem (Jvm.Term.field (Jvm.Term.string "RainWishes" (206 : Nat)) "java/lang/String" "value" "[B") (Jvm.Term.int (12 : Int32))) (Jvm.Term.int (110 : Int32))) ∈ nfl := List.mem_of_getElem? (i := 451) (by decide +kernel)
set_option maxRecDepth 20000 in
theorem nf_452 : (Jvm.Cond.eq (Jvm.Term.elem (Jvm.Term.field (Jvm.Term.string "RainWishes" (206 : Nat)) "java/lang/String" "value" "[B") (Jvm.Term.int (13 : Int32))) (Jvm.Term.int (111 : Int32))) ∈ nfl := List.mem_of_getElem? (i := 452) (by decide +kernel)
set_option maxRecDepth 20000 in
theorem nf_453 : (Jvm.Cond.eq (Jvm.Term.elem (Jvm.Term.field (Jvm.Term.string "RainWishes" (206 : Nat)) "java/lang/String" "value" "[B") (Jvm.Term.int (14 : Int32))) (Jvm.Term.int (116 : Int32))) ∈ nfl := List.mem_of_getElem? (i := 453) (by decide +kernel)
set_option maxRecDepth 20000 in
theorem nf_454 : (Jvm.Cond.eq (Jvm.Term.elem (Jvm.Term.field (Jvm.Term.string "RainWishes" (206 : Nat)) "java/lang/String" "value" "[B") (Jvm.Term.int (15 : Int32))) (Jvm.Term.int (32 : Int32))) ∈ nfl := List.mem_of_getElem? (i := 454) (by decide +kernel)
set_option maxRecDepth 20000 in
theorem nf_455 : (Jvm.Cond.eq (Jvm.Term.elem (Jvm.Term.field (Jvm.Term.string "RainWishes" (206 : Nat)) "java/lang/String" "value" "[B") (Jvm.Term.int (16 : Int32))) (Jvm.Term.int (111 : Int32))) ∈ nfl := List.mem_of_getElem? (i := 455) (by decide +kernel)
set_option maxRecDepth 20000 in
theorem nf_456 : (Jvm.Cond.eq (Jvm.Term.elem (Jvm.Term.field (Jvm.Term.string "RainWishes" (206 : Nat)) "java/lang/String" "value" "[B") (Jvm.Term.int (17 : Int32))) (Jvm.Term.int (112 : Int32))) ∈ nfl := List.mem_of_getElem? (i := 456) (by decide +kernel)
set_option maxRecDepth 20000 in
theorem nf_457 : (Jvm.Cond.eq (Jvm.Term.elem (Jvm.Term.field (Jvm.Term.string "RainWishes" (206 : Nat)) "java/lang/String" "value" "[B") (Jvm.Term.int (18 : Int32))) (Jvm.Term.int (101 : Int32))) ∈ nfl := List.mem_of_getElem? (i := 457) (by decide +kernel)
set_option maxRecDepth 20000 in
theorem nf_458 : (Jvm.Cond.eq (Jvm.Term.elem (Jvm.Term.field (Jvm.Term.string "RainWishes" (206 : Nat)) "java/lang/String" "value" "[B") (Jvm.Term.int (19 : Int32))) (Jvm.Term.int (110 : Int32))) ∈ nfl := List.mem_of_getElem? (i := 458) (by decide +kernel)
set_option maxRecDepth 20000 in
theorem nf_459 : (Jvm.Cond.exactly (Jvm.Term.string "RainWishes" (275 : Nat)) "java/lang/String") ∈ nfl := List.mem_of_getElem? (i := 459) (by decide +kernel)
set_option maxRecDepth 20000 in
theorem nf_460 : (Jvm.Cond.eq (Jvm.Term.field (Jvm.Term.string "RainWishes" (275 : Nat)) "java/lang/String" "coder" "B") (Jvm.Term.int (0 : Int32))) ∈ nfl := List.mem_of_getElem? (i := 460) (by decide +kernel)
set_option maxRecDepth 20000 in
theorem nf_461 : (Jvm.Cond.arrayOf (Jvm.Term.field (Jvm.Term.string "RainWishes" (275 : Nat)) "java/lang/String" "value" "[B") Jvm.ClassFile.FieldType.byte) ∈ nfl := List.mem_of_getElem? (i := 461) (by decide +kernel)
set_option maxRecDepth 20000 in
theorem nf_462 : (Jvm.Cond.eq (Jvm.Term.length (Jvm.Term.field (Jvm.Term.string "RainWishes" (275 : Nat)) "java/lang/String" "value" "[B")) (Jvm.Term.int (20 : Int32))) ∈ nfl := List.mem_of_getElem? (i := 462) (by decide +kernel)
set_option maxRecDepth 20000 in
theorem nf_463 : (Jvm.Cond.eq (Jvm.Term.elem (Jvm.Term.field (Jvm.Term.string "RainWishes" (275 : Nat)) "java/lang/String" "value" "[B") (Jvm.Term.int (0 : Int32))) (Jvm.Term.int (109 : Int32))) ∈ nfl := List.mem_of_getElem? (i := 463) (by decide +kernel)
set_option maxRecDepth 20000 in
theorem nf_464 : (Jvm.Cond.eq (Jvm.Term.elem (Jvm.Term.field (Jvm.Term.string "RainWishes" (275 : Nat)) "java/lang/String" "value" "[B") (Jvm.Term.int (1 : Int32))) (Jvm.Term.int (111 : Int32))) ∈ nfl := List.mem_of_getElem? (i := 464) (by decide +kernel)
set_option maxRecDepth 20000 in
theorem nf_465 : (Jvm.Cond.eq (Jvm.Term.elem (Jvm.Term.field (Jvm.Term.string "RainWishes" (275 : Nat)) "java/lang/String" "value" "[B") (Jvm.Term.int (2 : Int32))) (Jvm.Term.int (114 : Int32))) ∈ nfl := List.mem_of_getElem? (i := 465) (by decide +kernel)
set_option maxRecDepth 20000 in
theorem nf_466 : (Jvm.Cond.eq (Jvm.Term.elem (Jvm.Term.field (Jvm.Term.string "RainWishes" (275 : Nat)) "java/lang/String" "value" "[B") (Jvm.Term.int (3 : Int32))) (Jvm.Term.int (101 : Int32))) ∈ nfl := List.mem_of_getElem? (i := 466) (by decide +kernel)
set_option maxRecDepth 20000 in
theorem nf_467 : (Jvm.Cond.eq (Jvm.Term.elem (Jvm.Term.field (Jvm.Term.string "RainWishes" (275 : Nat)) "java/lang/String" "value" "[B") (Jvm.Term.int (4 : Int32))) (Jvm.Term.int (32 : Int32))) ∈ nfl := List.mem_of_getElem? (i := 467) (by decide +kernel)
set_option maxRecDepth 20000 in
theorem nf_468 : (Jvm.Cond.eq (Jvm.Term.elem (Jvm.Term.field (Jvm.Term.string "RainWishes" (275 : Nat)) "java/lang/String" "value" "[B") (Jvm.Term.int (5 : Int32))) (Jvm.Term.int (116 : Int32))) ∈ nfl := List.mem_of_getElem? (i := 468) (by decide +kernel)
set_option maxRecDepth 20000 in
theorem nf_469 : (Jvm.Cond.eq (Jvm.Term.elem (Jvm.Term.field (Jvm.Term.string "RainWishes" (275 : Nat)) "java/lang/String" "value" "[B") (Jvm.Term.int (6 : Int32))) (Jvm.Term.int (104 : Int32))) ∈ nfl := List.mem_of_getElem? (i := 469) (by decide +kernel)
set_option maxRecDepth 20000 in
theorem nf_470 : (Jvm.Cond.eq (Jvm.Term.elem (Jvm.Term.field (Jvm.Term.string "RainWishes" (275 : Nat)) "java/lang/String" "value" "[B") (Jvm.Term.int (7 : Int32))) (Jvm.Term.int (97 : Int32))) ∈ nfl := List.mem_of_getElem? (i := 470) (by decide +kernel)
set_option maxRecDepth 20000 in
theorem nf_471 : (Jvm.Cond.eq (Jvm.Term.elem (Jvm.Term.field (Jvm.Term.string "RainWishes" (275 : Nat)) "java/lang/String" "value" "[B") (Jvm.Term.int (8 : Int32))) (Jvm.Term.int (110 : Int32))) ∈ nfl := List.mem_of_getElem? (i := 471) (by decide +kernel)
set_option maxRecDepth 20000 in
theorem nf_472 : (Jvm.Cond.eq (Jvm.Term.elem (Jvm.Term.field (Jvm.Term.string "RainWishes" (275 : Nat)) "java/lang/String" "value" "[B") (Jvm.Term.int (9 : Int32))) (Jvm.Term.int (32 : Int32))) ∈ nfl := List.mem_of_getElem? (i := 472) (by decide +kernel)
set_option maxRecDepth 20000 in
theorem nf_473 : (Jvm.Cond.eq (Jvm.Term.elem (Jvm.Term.field (Jvm.Term.string "RainWishes" (275 : Nat)) "java/lang/String" "value" "[B") (Jvm.Term.int (10 : Int32))) (Jvm.Term.int (102 : Int32))) ∈ nfl := List.mem_of_getElem? (i := 473) (by decide +kernel)
set_option maxRecDepth 20000 in
theorem nf_474 : (Jvm.Cond.eq (Jvm.Term.elem (Jvm.Term.field (Jvm.Term.string "RainWishes" (275 : Nat)) "java/lang/String" "value" "[B") (Jvm.Term.int (11 : Int32))) (Jvm.Term.int (111 : Int32))) ∈ nfl := List.mem_of_getElem? (i := 474) (by decide +kernel)
set_option maxRecDepth 20000 in
theorem nf_475 : (Jvm.Cond.eq (Jvm.Term.elem (Jvm.Term.field (Jvm.Term.string "RainWishes" (275 : Nat)) "java/lang/String" "value" "[B") (Jvm.Term.int (12 : Int32))) (Jvm.Term.int (117 : Int32))) ∈ nfl := List.mem_of_getElem? (i := 475) (by decide +kernel)
set_option maxRecDepth 20000 in
theorem nf_476 : (Jvm.Cond.eq (Jvm.Term.elem (Jvm.Term.field (Jvm.Term.string "RainWishes" (275 : Nat)) "java/lang/String" "value" "[B") (Jvm.Term.int (13 : Int32))) (Jvm.Term.int (114 : Int32))) ∈ nfl := List.mem_of_getElem? (i := 476) (by decide +kernel)
set_option maxRecDepth 20000 in
theorem nf_477 : (Jvm.Cond.eq (Jvm.Term.elem (Jvm.Term.field (Jvm.Term.string "RainWishes" (275 : Nat)) "java/lang/String" "value" "[B") (Jvm.Term.int (14 : Int32))) (Jvm.Term.int (32 : Int32))) ∈ nfl := List.mem_of_getElem? (i := 477) (by decide +kernel)
set_option maxRecDepth 20000 in
theorem nf_478 : (Jvm.Cond.eq (Jvm.Term.elem (Jvm.Term.field (Jvm.Term.string "RainWishes" (275 : Nat)) "java/lang/String" "value" "[B") (Jvm.Term.int (15 : Int32))) (Jvm.Term.int (99 : Int32))) ∈ nfl := List.mem_of_getElem? (i := 478) (by decide +kernel)
set_option maxRecDepth 20000 in
theorem nf_479 : (Jvm.Cond.eq (Jvm.Term.elem (Jvm.Term.field (Jvm.Term.string "RainWishes" (275 : Nat)) "java/lang/String" "value" "[B") (Jvm.Term.int (16 : Int32))) (Jvm.Term.int (101 : Int32))) ∈ nfl := List.mem_of_getElem? (i := 479) (by decide +kernel)
set_option maxRecDepth 20000 in
theorem nf_480 : (Jvm.Cond.eq (Jvm.Term.elem (Jvm.Term.field (Jvm.Term.string "RainWishes" (275 : Nat)) "java/lang/String" "value" "[B") (Jvm.Term.int (17 : Int32))) (Jvm.Term.int (108 : Int32))) ∈ nfl := List.mem_of_getElem? (i := 480) (by decide +kernel)
set_option maxRecDepth 20000 in
theorem nf_481 : (Jvm.Cond.eq (Jvm.Term.elem (Jvm.Term.field (Jvm.Term.string "RainWishes" (275 : Nat)) "java/lang/String" "value" "[B") (Jvm.Term.int (18 : Int32))) (Jvm.Term.int (108 : Int32))) ∈ nfl := List.mem_of_getElem? (i := 481) (by decide +kernel)
set_option maxRecDepth 20000 in
theorem nf_482 : (Jvm.Cond.eq (Jvm.Term.elem (Jvm.Term.field (Jvm.Term.string "RainWishes" (275 : Nat)) "java/lang/String" "value" "[B") (Jvm.Term.int (19 : Int32))) (Jvm.Term.int (115 : Int32))) ∈ nfl := List.mem_of_getElem? (i := 482) (by decide +kernel)
set_option maxRecDepth 20000 in
theorem nf_483 : (Jvm.Cond.exactly (Jvm.Term.string "RainWishes" (219 : Nat)) "java/lang/String") ∈ nfl := List.mem_of_getElem? (i := 483) (by decide +kernel)
set_option maxRecDepth 20000 in
theorem nf_484 : (Jvm.Cond.eq (Jvm.Term.field (Jvm.Term.string "RainWishes" (219 : Nat)) "java/lang/String" "coder" "B") (Jvm.Term.int (0 : Int32))) ∈ nfl := List.mem_of_getElem? (i := 484) (by decide +kernel)
set_option maxRecDepth 20000 in
theorem nf_485 : (Jvm.Cond.arrayOf (Jvm.Term.field (Jvm.Term.string "RainWishes" (219 : Nat)) "java/lang/String" "value" "[B") Jvm.ClassFile.FieldType.byte) ∈ nfl := List.mem_of_getElem? (i := 485) (by decide +kernel)
set_option maxRecDepth 20000 in
theorem nf_486 : (Jvm.Cond.eq (Jvm.Term.length (Jvm.Term.field (Jvm.Term.string "RainWishes" (219 : Nat)) "java/lang/String" "value" "[B")) (Jvm.Term.int (14 : Int32))) ∈ nfl := List.mem_of_getElem? (i := 486) (by decide +kernel)
set_option maxRecDepth 20000 in
theorem nf_487 : (Jvm.Cond.eq (Jvm.Term.elem (Jvm.Term.field (Jvm.Term.string "RainWishes" (219 : Nat)) "java/lang/String" "value" "[B") (Jvm.Term.int (0 : Int32))) (Jvm.Term.int (110 : Int32))) ∈ nfl := List.mem_of_getElem? (i := 487) (by decide +kernel)
set_option maxRecDepth 20000 in
theorem nf_488 : (Jvm.Cond.eq (Jvm.Term.elem (Jvm.Term.field (Jvm.Term.string "RainWishes" (219 : Nat)) "java/lang/String" "value" "[B") (Jvm.Term.int (1 : Int32))) (Jvm.Term.int (111 : Int32))) ∈ nfl := List.mem_of_getElem? (i := 488) (by decide +kernel)
set_option maxRecDepth 20000 in
theorem nf_489 : (Jvm.Cond.eq (Jvm.Term.elem (Jvm.Term.field (Jvm.Term.string "RainWishes" (219 : Nat)) "java/lang/String" "value" "[B") (Jvm.Term.int (2 : Int32))) (Jvm.Term.int (116 : Int32))) ∈ nfl := List.mem_of_getElem? (i := 489) (by decide +kernel)
set_option maxRecDepth 20000 in
theorem nf_490 : (Jvm.Cond.eq (Jvm.Term.elem (Jvm.Term.field (Jvm.Term.string "RainWishes" (219 : Nat)) "java/lang/String" "value" "[B") (Jvm.Term.int (3 : Int32))) (Jvm.Term.int (32 : Int32))) ∈ nfl := List.mem_of_getElem? (i := 490) (by decide +kernel)
set_option maxRecDepth 20000 in
theorem nf_491 : (Jvm.Cond.eq (Jvm.Term.elem (Jvm.Term.field (Jvm.Term.string "RainWishes" (219 : Nat)) "java/lang/String" "value" "[B") (Jvm.Term.int (4 : Int32))) (Jvm.Term.int (104 : Int32))) ∈ nfl := List.mem_of_getElem? (i := 491) (by decide +kernel)
set_option maxRecDepth 20000 in
theorem nf_492 : (Jvm.Cond.eq (Jvm.Term.elem (Jvm.Term.field (Jvm.Term.string "RainWishes" (219 : Nat)) "java/lang/String" "value" "[B") (Jvm.Term.int (5 : Int32))) (Jvm.Term.int (117 : Int32))) ∈ nfl := List.mem_of_getElem? (i := 492) (by decide +kernel)
set_option maxRecDepth 20000 in
theorem nf_493 : (Jvm.Cond.eq (Jvm.Term.elem (Jvm.Term.field (Jvm.Term.string "RainWishes" (219 : Nat)) "java/lang/String" "value" "[B") (Jvm.Term.int (6 : Int32))) (Jvm.Term.int (110 : Int32))) ∈ nfl := List.mem_of_getElem? (i := 493) (by decide +kernel)
set_option maxRecDepth 20000 in
theorem nf_494 : (Jvm.Cond.eq (Jvm.Term.elem (Jvm.Term.field (Jvm.Term.string "RainWishes" (219 : Nat)) "java/lang/String" "value" "[B") (Jvm.Term.int (7 : Int32))) (Jvm.Term.int (100 : Int32))) ∈ nfl := List.mem_of_getElem? (i := 494) (by decide +kernel)
set_option maxRecDepth 20000 in
theorem nf_495 : (Jvm.Cond.eq (Jvm.Term.elem (Jvm.Term.field (Jvm.Term.string "RainWishes" (219 : Nat)) "java/lang/String" "value" "[B") (Jvm.Term.int (8 : Int32))) (Jvm.Term.int (114 : Int32))) ∈ nfl := List.mem_of_getElem? (i := 495) (by decide +kernel)
set_option maxRecDepth 20000 in
theorem nf_496 : (Jvm.Cond.eq (Jvm.Term.elem (Jvm.Term.field (Jvm.Term.string "RainWishes" (219 : Nat)) "java/lang/String" "value" "[B") (Jvm.Term.int (9 : Int32))) (Jvm.Term.int (101 : Int32))) ∈ nfl := List.mem_of_getElem? (i := 496) (by decide +kernel)
set_option maxRecDepth 20000 in
theorem nf_497 : (Jvm.Cond.eq (Jvm.Term.elem (Jvm.Term.field (Jvm.Term.string "RainWishes" (219 : Nat)) "java/lang/String" "value" "[B") (Jvm.Term.int (10 : Int32))) (Jvm.Term.int (100 : Int32))) ∈ nfl := List.mem_of_getElem? (i := 497) (by decide +kernel)
set_option maxRecDepth 20000 in
theorem nf_498 : (Jvm.Cond.eq (Jvm.Term.elem (Jvm.Term.field (Jvm.Term.string "RainWishes" (219 : Nat)) "java/lang/String" "value" "[B") (Jvm.Term.int (11 : Int32))) (Jvm.Term.int (116 : Int32))) ∈ nfl := List.mem_of_getElem? (i := 498) (by decide +kernel)
set_option maxRecDepth 20000 in
theorem nf_499 : (Jvm.Cond.eq (Jvm.Term.elem (Jvm.Term.field (Jvm.Term.string "RainWishes" (219 : Nat)) "java/lang/String" "value" "[B") (Jvm.Term.int (12 : Int32))) (Jvm.Term.int (104 : Int32))) ∈ nfl := List.mem_of_getElem? (i := 499) (by decide +kernel)
set_option maxRecDepth 20000 in
theorem nf_500 : (Jvm.Cond.eq (Jvm.Term.elem (Jvm.Term.field (Jvm.Term.string "RainWishes" (219 : Nat)) "java/lang/String" "value" "[B") (Jvm.Term.int (13 : Int32))) (Jvm.Term.int (115 : Int32))) ∈ nfl := List.mem_of_getElem? (i := 500) (by decide +kernel)
set_option maxRecDepth 20000 in
theorem nf_501 : (Jvm.Cond.exactly (Jvm.Term.string "RainWishes" (217 : Nat)) "java/lang/String") ∈ nfl := List.mem_of_getElem? (i := 501) (by decide +kernel)
set_option maxRecDepth 20000 in
theorem nf_502 : (Jvm.Cond.eq (Jvm.Term.field (Jvm.Term.string "RainWishes" (217 : Nat)) "java/lang/String" "coder" "B") (Jvm.Term.int (0 : Int32))) ∈ nfl := List.mem_of_getElem? (i := 502) (by decide +kernel)
set_option maxRecDepth 20000 in
theorem nf_503 : (Jvm.Cond.arrayOf (Jvm.Term.field (Jvm.Term.string "RainWishes" (217 : Nat)) "java/lang/String" "value" "[B") Jvm.ClassFile.FieldType.byte) ∈ nfl := List.mem_of_getElem? (i := 503) (by decide +kernel)
set_option maxRecDepth 20000 in
theorem nf_504 : (Jvm.Cond.eq (Jvm.Term.length (Jvm.Term.field (Jvm.Term.string "RainWishes" (217 : Nat)) "java/lang/String" "value" "[B")) (Jvm.Term.int (12 : Int32))) ∈ nfl := List.mem_of_getElem? (i := 504) (by decide +kernel)
set_option maxRecDepth 20000 in
theorem nf_505 : (Jvm.Cond.eq (Jvm.Term.elem (Jvm.Term.field (Jvm.Term.string "RainWishes" (217 : Nat)) "java/lang/String" "value" "[B") (Jvm.Term.int (0 : Int32))) (Jvm.Term.int (110 : Int32))) ∈ nfl := List.mem_of_getElem? (i := 505) (by decide +kernel)
set_option maxRecDepth 20000 in
theorem nf_506 : (Jvm.Cond.eq (Jvm.Term.elem (Jvm.Term.field (Jvm.Term.string "RainWishes" (217 : Nat)) "java/lang/String" "value" "[B") (Jvm.Term.int (1 : Int32))) (Jvm.Term.int (111 : Int32))) ∈ nfl := List.mem_of_getElem? (i := 506) (by decide +kernel)
set_option maxRecDepth 20000 in
theorem nf_507 : (Jvm.Cond.eq (Jvm.Term.elem (Jvm.Term.field (Jvm.Term.string "RainWishes" (217 : Nat)) "java/lang/String" "value" "[B") (Jvm.Term.int (2 : Int32))) (Jvm.Term.int (32 : Int32))) ∈ nfl := List.mem_of_getElem? (i := 507) (by decide +kernel)
set_option maxRecDepth 20000 in
theorem nf_508 : (Jvm.Cond.eq (Jvm.Term.elem (Jvm.Term.field (Jvm.Term.string "RainWishes" (217 : Nat)) "java/lang/String" "value" "[B") (Jvm.Term.int (3 : Int32))) (Jvm.Term.int (115 : Int32))) ∈ nfl := List.mem_of_getElem? (i := 508) (by decide +kernel)
set_option maxRecDepth 20000 in
theorem nf_509 : (Jvm.Cond.eq (Jvm.Term.elem (Jvm.Term.field (Jvm.Term.string "RainWishes" (217 : Nat)) "java/lang/String" "value" "[B") (Jvm.Term.int (4 : Int32))) (Jvm.Term.int (117 : Int32))) ∈ nfl := List.mem_of_getElem? (i := 509) (by decide +kernel)
set_option maxRecDepth 20000 in
theorem nf_510 : (Jvm.Cond.eq (Jvm.Term.elem (Jvm.Term.field (Jvm.Term.string "RainWishes" (217 : Nat)) "java/lang/String" "value" "[B") (Jvm.Term.int (5 : Int32))) (Jvm.Term.int (99 : Int32))) ∈ nfl := List.mem_of_getElem? (i := 510) (by decide +kernel)
set_option maxRecDepth 20000 in
theorem nf_511 : (Jvm.Cond.eq (Jvm.Term.elem (Jvm.Term.field (Jvm.Term.string "RainWishes" (217 : Nat)) "java/lang/String" "value" "[B") (Jvm.Term.int (6 : Int32))) (Jvm.Term.int (104 : Int32))) ∈ nfl := List.mem_of_getElem? (i := 511) (by decide +kernel)
set_option maxRecDepth 20000 in
theorem nf_512 : (Jvm.Cond.eq (Jvm.Term.elem (Jvm.Term.field (Jvm.Term.string "RainWishes" (217 : Nat)) "java/lang/String" "value" "[B") (Jvm.Term.int (7 : Int32))) (Jvm.Term.int (32 : Int32))) ∈ nfl := List.mem_of_getElem? (i := 512) (by decide +kernel)
set_option maxRecDepth 20000 in
theorem nf_513 : (Jvm.Cond.eq (Jvm.Term.elem (Jvm.Term.field (Jvm.Term.string "RainWishes" (217 : Nat)) "java/lang/String" "value" "[B") (Jvm.Term.int (8 : Int32))) (Jvm.Term.int (114 : Int32))) ∈ nfl := List.mem_of_getElem? (i := 513) (by decide +kernel)
set_option maxRecDepth 20000 in
theorem nf_514 : (Jvm.Cond.eq (Jvm.Term.elem (Jvm.Term.field (Jvm.Term.string "RainWishes" (217 : Nat)) "java/lang/String" "value" "[B") (Jvm.Term.int (9 : Int32))) (Jvm.Term.int (117 : Int32))) ∈ nfl := List.mem_of_getElem? (i := 514) (by decide +kernel)
set_option maxRecDepth 20000 in
theorem nf_515 : (Jvm.Cond.eq (Jvm.Term.elem (Jvm.Term.field (Jvm.Term.string "RainWishes" (217 : Nat)) "java/lang/String" "value" "[B") (Jvm.Term.int (10 : Int32))) (Jvm.Term.int (108 : Int32))) ∈ nfl := List.mem_of_getElem? (i := 515) (by decide +kernel)
set_option maxRecDepth 20000 in
theorem nf_516 : (Jvm.Cond.eq (Jvm.Term.elem (Jvm.Term.field (Jvm.Term.string "RainWishes" (217 : Nat)) "java/lang/String" "value" "[B") (Jvm.Term.int (11 : Int32))) (Jvm.Term.int (101 : Int32))) ∈ nfl := List.mem_of_getElem? (i := 516) (by decide +kernel)
set_option maxRecDepth 20000 in
theorem nf_517 : (Jvm.Cond.exactly (Jvm.Term.string "RainWishes" (215 : Nat)) "java/lang/String") ∈ nfl := List.mem_of_getElem? (i := 517) (by decide +kernel)
set_option maxRecDepth 20000 in
theorem nf_518 : (Jvm.Cond.eq (Jvm.Term.field (Jvm.Term.string "RainWishes" (215 : Nat)) "java/lang/String" "coder" "B") (Jvm.Term.int (0 : Int32))) ∈ nfl := List.mem_of_getElem? (i := 518) (by decide +kernel)
set_option maxRecDepth 20000 in
theorem nf_519 : (Jvm.Cond.arrayOf (Jvm.Term.field (Jvm.Term.string "RainWishes" (215 : Nat)) "java/lang/String" "value" "[B") Jvm.ClassFile.FieldType.byte) ∈ nfl := List.mem_of_getElem? (i := 519) (by decide +kernel)
set_option maxRecDepth 20000 in
theorem nf_520 : (Jvm.Cond.eq (Jvm.Term.length (Jvm.Term.field (Jvm.Term.string "RainWishes" (215 : Nat)) "java/lang/String" "value" "[B")) (Jvm.Term.int (14 : Int32))) ∈ nfl := List.mem_of_getElem? (i := 520) (by decide +kernel)
set_option maxRecDepth 20000 in
theorem nf_521 : (Jvm.Cond.eq (Jvm.Term.elem (Jvm.Term.field (Jvm.Term.string "RainWishes" (215 : Nat)) "java/lang/String" "value" "[B") (Jvm.Term.int (0 : Int32))) (Jvm.Term.int (110 : Int32))) ∈ nfl := List.mem_of_getElem? (i := 521) (by decide +kernel)
set_option maxRecDepth 20000 in
theorem nf_522 : (Jvm.Cond.eq (Jvm.Term.elem (Jvm.Term.field (Jvm.Term.string "RainWishes" (215 : Nat)) "java/lang/String" "value" "[B") (Jvm.Term.int (1 : Int32))) (Jvm.Term.int (111 : Int32))) ∈ nfl := List.mem_of_getElem? (i := 522) (by decide +kernel)
set_option maxRecDepth 20000 in
theorem nf_523 : (Jvm.Cond.eq (Jvm.Term.elem (Jvm.Term.field (Jvm.Term.string "RainWishes" (215 : Nat)) "java/lang/String" "value" "[B") (Jvm.Term.int (2 : Int32))) (Jvm.Term.int (32 : Int32))) ∈ nfl := List.mem_of_getElem? (i := 523) (by decide +kernel)
set_option maxRecDepth 20000 in
theorem nf_524 : (Jvm.Cond.eq (Jvm.Term.elem (Jvm.Term.field (Jvm.Term.string "RainWishes" (215 : Nat)) "java/lang/String" "value" "[B") (Jvm.Term.int (3 : Int32))) (Jvm.Term.int (115 : Int32))) ∈ nfl := List.mem_of_getElem? (i := 524) (by decide +kernel)
set_option maxRecDepth 20000 in
theorem nf_525 : (Jvm.Cond.eq (Jvm.Term.elem (Jvm.Term.field (Jvm.Term.string "RainWishes" (215 : Nat)) "java/lang/String" "value" "[B") (Jvm.Term.int (4 : Int32))) (Jvm.Term.int (117 : Int32))) ∈ nfl := List.mem_of_getElem? (i := 525) (by decide +kernel)
set_option maxRecDepth 20000 in
theorem nf_526 : (Jvm.Cond.eq (Jvm.Term.elem (Jvm.Term.field (Jvm.Term.string "RainWishes" (215 : Nat)) "java/lang/String" "value" "[B") (Jvm.Term.int (5 : Int32))) (Jvm.Term.int (99 : Int32))) ∈ nfl := List.mem_of_getElem? (i := 526) (by decide +kernel)
set_option maxRecDepth 20000 in
theorem nf_527 : (Jvm.Cond.eq (Jvm.Term.elem (Jvm.Term.field (Jvm.Term.string "RainWishes" (215 : Nat)) "java/lang/String" "value" "[B") (Jvm.Term.int (6 : Int32))) (Jvm.Term.int (104 : Int32))) ∈ nfl := List.mem_of_getElem? (i := 527) (by decide +kernel)
set_option maxRecDepth 20000 in
theorem nf_528 : (Jvm.Cond.eq (Jvm.Term.elem (Jvm.Term.field (Jvm.Term.string "RainWishes" (215 : Nat)) "java/lang/String" "value" "[B") (Jvm.Term.int (7 : Int32))) (Jvm.Term.int (32 : Int32))) ∈ nfl := List.mem_of_getElem? (i := 528) (by decide +kernel)
set_option maxRecDepth 20000 in
theorem nf_529 : (Jvm.Cond.eq (Jvm.Term.elem (Jvm.Term.field (Jvm.Term.string "RainWishes" (215 : Nat)) "java/lang/String" "value" "[B") (Jvm.Term.int (8 : Int32))) (Jvm.Term.int (112 : Int32))) ∈ nfl := List.mem_of_getElem? (i := 529) (by decide +kernel)
set_option maxRecDepth 20000 in
theorem nf_530 : (Jvm.Cond.eq (Jvm.Term.elem (Jvm.Term.field (Jvm.Term.string "RainWishes" (215 : Nat)) "java/lang/String" "value" "[B") (Jvm.Term.int (9 : Int32))) (Jvm.Term.int (101 : Int32))) ∈ nfl := List.mem_of_getElem? (i := 530) (by decide +kernel)
set_option maxRecDepth 20000 in
theorem nf_531 : (Jvm.Cond.eq (Jvm.Term.elem (Jvm.Term.field (Jvm.Term.string "RainWishes" (215 : Nat)) "java/lang/String" "value" "[B") (Jvm.Term.int (10 : Int32))) (Jvm.Term.int (114 : Int32))) ∈ nfl := List.mem_of_getElem? (i := 531) (by decide +kernel)
set_option maxRecDepth 20000 in
theorem nf_532 : (Jvm.Cond.eq (Jvm.Term.elem (Jvm.Term.field (Jvm.Term.string "RainWishes" (215 : Nat)) "java/lang/String" "value" "[B") (Jvm.Term.int (11 : Int32))) (Jvm.Term.int (115 : Int32))) ∈ nfl := List.mem_of_getElem? (i := 532) (by decide +kernel)
set_option maxRecDepth 20000 in
theorem nf_533 : (Jvm.Cond.eq (Jvm.Term.elem (Jvm.Term.field (Jvm.Term.string "RainWishes" (215 : Nat)) "java/lang/String" "value" "[B") (Jvm.Term.int (12 : Int32))) (Jvm.Term.int (111 : Int32))) ∈ nfl := List.mem_of_getElem? (i := 533) (by decide +kernel)
set_option maxRecDepth 20000 in
theorem nf_534 : (Jvm.Cond.eq (Jvm.Term.elem (Jvm.Term.field (Jvm.Term.string "RainWishes" (215 : Nat)) "java/lang/String" "value" "[B") (Jvm.Term.int (13 : Int32))) (Jvm.Term.int (110 : Int32))) ∈ nfl := List.mem_of_getElem? (i := 534) (by decide +kernel)
set_option maxRecDepth 20000 in
theorem nf_535 : (Jvm.Cond.exactly (Jvm.Term.string "RainWishes" (221 : Nat)) "java/lang/String") ∈ nfl := List.mem_of_getElem? (i := 535) (by decide +kernel)
set_option maxRecDepth 20000 in
theorem nf_536 : (Jvm.Cond.eq (Jvm.Term.field (Jvm.Term.string "RainWishes" (221 : Nat)) "java/lang/String" "coder" "B") (Jvm.Term.int (0 : Int32))) ∈ nfl := List.mem_of_getElem? (i := 536) (by decide +kernel)
set_option maxRecDepth 20000 in
theorem nf_537 : (Jvm.Cond.arrayOf (Jvm.Term.field (Jvm.Term.string "RainWishes" (221 : Nat)) "java/lang/String" "value" "[B") Jvm.ClassFile.FieldType.byte) ∈ nfl := List.mem_of_getElem? (i := 537) (by decide +kernel)
set_option maxRecDepth 20000 in
theorem nf_538 : (Jvm.Cond.eq (Jvm.Term.length (Jvm.Term.field (Jvm.Term.string "RainWishes" (221 : Nat)) "java/lang/String" "value" "[B")) (Jvm.Term.int (12 : Int32))) ∈ nfl := List.mem_of_getElem? (i := 538) (by decide +kernel)
set_option maxRecDepth 20000 in
theorem nf_539 : (Jvm.Cond.eq (Jvm.Term.elem (Jvm.Term.field (Jvm.Term.string "RainWishes" (221 : Nat)) "java/lang/String" "value" "[B") (Jvm.Term.int (0 : Int32))) (Jvm.Term.int (110 : Int32))) ∈ nfl := List.mem_of_getElem? (i := 539) (by decide +kernel)
set_option maxRecDepth 20000 in
theorem nf_540 : (Jvm.Cond.eq (Jvm.Term.elem (Jvm.Term.field (Jvm.Term.string "RainWishes" (221 : Nat)) "java/lang/String" "value" "[B") (Jvm.Term.int (1 : Int32))) (Jvm.Term.int (111 : Int32))) ∈ nfl := List.mem_of_getElem? (i := 540) (by decide +kernel)
set_option maxRecDepth 20000 in
theorem nf_541 : (Jvm.Cond.eq (Jvm.Term.elem (Jvm.Term.field (Jvm.Term.string "RainWishes" (221 : Nat)) "java/lang/String" "value" "[B") (Jvm.Term.int (2 : Int32))) (Jvm.Term.int (32 : Int32))) ∈ nfl := List.mem_of_getElem? (i := 541) (by decide +kernel)
set_option maxRecDepth 20000 in
theorem nf_542 : (Jvm.Cond.eq (Jvm.Term.elem (Jvm.Term.field (Jvm.Term.string "RainWishes" (221 : Nat)) "java/lang/String" "value" "[B") (Jvm.Term.int (3 : Int32))) (Jvm.Term.int (115 : Int32))) ∈ nfl := List.mem_of_getElem? (i := 542) (by decide +kernel)
set_option maxRecDepth 20000 in
theorem nf_543 : (Jvm.Cond.eq (Jvm.Term.elem (Jvm.Term.field (Jvm.Term.string "RainWishes" (221 : Nat)) "java/lang/String" "value" "[B") (Jvm.Term.int (4 : Int32))) (Jvm.Term.int (117 : Int32))) ∈ nfl := List.mem_of_getElem? (i := 543) (by decide +kernel)
set_option maxRecDepth 20000 in
theorem nf_544 : (Jvm.Cond.eq (Jvm.Term.elem (Jvm.Term.field (Jvm.Term.string "RainWishes" (221 : Nat)) "java/lang/String" "value" "[B") (Jvm.Term.int (5 : Int32))) (Jvm.Term.int (99 : Int32))) ∈ nfl := List.mem_of_getElem? (i := 544) (by decide +kernel)
set_option maxRecDepth 20000 in
theorem nf_545 : (Jvm.Cond.eq (Jvm.Term.elem (Jvm.Term.field (Jvm.Term.string "RainWishes" (221 : Nat)) "java/lang/String" "value" "[B") (Jvm.Term.int (6 : Int32))) (Jvm.Term.int (104 : Int32))) ∈ nfl := List.mem_of_getElem? (i := 545) (by decide +kernel)
set_option maxRecDepth 20000 in
theorem nf_546 : (Jvm.Cond.eq (Jvm.Term.elem (Jvm.Term.field (Jvm.Term.string "RainWishes" (221 : Nat)) "java/lang/String" "value" "[B") (Jvm.Term.int (7 : Int32))) (Jvm.Term.int (32 : Int32))) ∈ nfl := List.mem_of_getElem? (i := 546) (by decide +kernel)
set_option maxRecDepth 20000 in
theorem nf_547 : (Jvm.Cond.eq (Jvm.Term.elem (Jvm.Term.field (Jvm.Term.string "RainWishes" (221 : Nat)) "java/lang/String" "value" "[B") (Jvm.Term.int (8 : Int32))) (Jvm.Term.int (116 : Int32))) ∈ nfl := List.mem_of_getElem? (i := 547) (by decide +kernel)
set_option maxRecDepth 20000 in
theorem nf_548 : (Jvm.Cond.eq (Jvm.Term.elem (Jvm.Term.field (Jvm.Term.string "RainWishes" (221 : Nat)) "java/lang/String" "value" "[B") (Jvm.Term.int (9 : Int32))) (Jvm.Term.int (114 : Int32))) ∈ nfl := List.mem_of_getElem? (i := 548) (by decide +kernel)
set_option maxRecDepth 20000 in
theorem nf_549 : (Jvm.Cond.eq (Jvm.Term.elem (Jvm.Term.field (Jvm.Term.string "RainWishes" (221 : Nat)) "java/lang/String" "value" "[B") (Jvm.Term.int (10 : Int32))) (Jvm.Term.int (97 : Int32))) ∈ nfl := List.mem_of_getElem? (i := 549) (by decide +kernel)
set_option maxRecDepth 20000 in
theorem nf_550 : (Jvm.Cond.eq (Jvm.Term.elem (Jvm.Term.field (Jvm.Term.string "RainWishes" (221 : Nat)) "java/lang/String" "value" "[B") (Jvm.Term.int (11 : Int32))) (Jvm.Term.int (121 : Int32))) ∈ nfl := List.mem_of_getElem? (i := 550) (by decide +kernel)
set_option maxRecDepth 20000 in
theorem nf_551 : (Jvm.Cond.exactly (Jvm.Term.string "RainWishes" (228 : Nat)) "java/lang/String") ∈ nfl := List.mem_of_getElem? (i := 551) (by decide +kernel)
set_option maxRecDepth 20000 in
theorem nf_552 : (Jvm.Cond.eq (Jvm.Term.field (Jvm.Term.string "RainWishes" (228 : Nat)) "java/lang/String" "coder" "B") (Jvm.Term.int (0 : Int32))) ∈ nfl := List.mem_of_getElem? (i := 552) (by decide +kernel)
set_option maxRecDepth 20000 in
theorem nf_553 : (Jvm.Cond.arrayOf (Jvm.Term.field (Jvm.Term.string "RainWishes" (228 : Nat)) "java/lang/String" "value" "[B") Jvm.ClassFile.FieldType.byte) ∈ nfl := List.mem_of_getElem? (i := 553) (by decide +kernel)
set_option maxRecDepth 20000 in
theorem nf_554 : (Jvm.Cond.eq (Jvm.Term.length (Jvm.Term.field (Jvm.Term.string "RainWishes" (228 : Nat)) "java/lang/String" "value" "[B")) (Jvm.Term.int (19 : Int32))) ∈ nfl := List.mem_of_getElem? (i := 554) (by decide +kernel)
set_option maxRecDepth 20000 in
theorem nf_555 : (Jvm.Cond.eq (Jvm.Term.elem (Jvm.Term.field (Jvm.Term.string "RainWishes" (228 : Nat)) "java/lang/String" "value" "[B") (Jvm.Term.int (0 : Int32))) (Jvm.Term.int (116 : Int32))) ∈ nfl := List.mem_of_getElem? (i := 555) (by decide +kernel)
set_option maxRecDepth 20000 in
theorem nf_556 : (Jvm.Cond.eq (Jvm.Term.elem (Jvm.Term.field (Jvm.Term.string "RainWishes" (228 : Nat)) "java/lang/String" "value" "[B") (Jvm.Term.int (1 : Int32))) (Jvm.Term.int (104 : Int32))) ∈ nfl := List.mem_of_getElem? (i := 556) (by decide +kernel)
set_option maxRecDepth 20000 in
theorem nf_557 : (Jvm.Cond.eq (Jvm.Term.elem (Jvm.Term.field (Jvm.Term.string "RainWishes" (228 : Nat)) "java/lang/String" "value" "[B") (Jvm.Term.int (2 : Int32))) (Jvm.Term.int (101 : Int32))) ∈ nfl := List.mem_of_getElem? (i := 557) (by decide +kernel)
set_option maxRecDepth 20000 in
theorem nf_558 : (Jvm.Cond.eq (Jvm.Term.elem (Jvm.Term.field (Jvm.Term.string "RainWishes" (228 : Nat)) "java/lang/String" "value" "[B") (Jvm.Term.int (3 : Int32))) (Jvm.Term.int (32 : Int32))) ∈ nfl := List.mem_of_getElem? (i := 558) (by decide +kernel)
set_option maxRecDepth 20000 in
theorem nf_559 : (Jvm.Cond.eq (Jvm.Term.elem (Jvm.Term.field (Jvm.Term.string "RainWishes" (228 : Nat)) "java/lang/String" "value" "[B") (Jvm.Term.int (4 : Int32))) (Jvm.Term.int (116 : Int32))) ∈ nfl := List.mem_of_getElem? (i := 559) (by decide +kernel)
set_option maxRecDepth 20000 in
theorem nf_560 : (Jvm.Cond.eq (Jvm.Term.elem (Jvm.Term.field (Jvm.Term.string "RainWishes" (228 : Nat)) "java/lang/String" "value" "[B") (Jvm.Term.int (5 : Int32))) (Jvm.Term.int (114 : Int32))) ∈ nfl := List.mem_of_getElem? (i := 560) (by decide +kernel)
set_option maxRecDepth 20000 in
theorem nf_561 : (Jvm.Cond.eq (Jvm.Term.elem (Jvm.Term.field (Jvm.Term.string "RainWishes" (228 : Nat)) "java/lang/String" "value" "[B") (Jvm.Term.int (6 : Int32))) (Jvm.Term.int (97 : Int32))) ∈ nfl := List.mem_of_getElem? (i := 561) (by decide +kernel)
set_option maxRecDepth 20000 in
theorem nf_562 : (Jvm.Cond.eq (Jvm.Term.elem (Jvm.Term.field (Jvm.Term.string "RainWishes" (228 : Nat)) "java/lang/String" "value" "[B") (Jvm.Term.int (7 : Int32))) (Jvm.Term.int (121 : Int32))) ∈ nfl := List.mem_of_getElem? (i := 562) (by decide +kernel)
set_option maxRecDepth 20000 in
theorem nf_563 : (Jvm.Cond.eq (Jvm.Term.elem (Jvm.Term.field (Jvm.Term.string "RainWishes" (228 : Nat)) "java/lang/String" "value" "[B") (Jvm.Term.int (8 : Int32))) (Jvm.Term.int (32 : Int32))) ∈ nfl := List.mem_of_getElem? (i := 563) (by decide +kernel)
set_option maxRecDepth 20000 in
theorem nf_564 : (Jvm.Cond.eq (Jvm.Term.elem (Jvm.Term.field (Jvm.Term.string "RainWishes" (228 : Nat)) "java/lang/String" "value" "[B") (Jvm.Term.int (9 : Int32))) (Jvm.Term.int (105 : Int32))) ∈ nfl := List.mem_of_getElem? (i := 564) (by decide +kernel)
set_option maxRecDepth 20000 in
theorem nf_565 : (Jvm.Cond.eq (Jvm.Term.elem (Jvm.Term.field (Jvm.Term.string "RainWishes" (228 : Nat)) "java/lang/String" "value" "[B") (Jvm.Term.int (10 : Int32))) (Jvm.Term.int (115 : Int32))) ∈ nfl := List.mem_of_getElem? (i := 565) (by decide +kernel)
set_option maxRecDepth 20000 in
theorem nf_566 : (Jvm.Cond.eq (Jvm.Term.elem (Jvm.Term.field (Jvm.Term.string "RainWishes" (228 : Nat)) "java/lang/String" "value" "[B") (Jvm.Term.int (11 : Int32))) (Jvm.Term.int (32 : Int32))) ∈ nfl := List.mem_of_getElem? (i := 566) (by decide +kernel)
set_option maxRecDepth 20000 in
theorem nf_567 : (Jvm.Cond.eq (Jvm.Term.elem (Jvm.Term.field (Jvm.Term.string "RainWishes" (228 : Nat)) "java/lang/String" "value" "[B") (Jvm.Term.int (12 : Int32))) (Jvm.Term.int (109 : Int32))) ∈ nfl := List.mem_of_getElem? (i := 567) (by decide +kernel)
set_option maxRecDepth 20000 in
theorem nf_568 : (Jvm.Cond.eq (Jvm.Term.elem (Jvm.Term.field (Jvm.Term.string "RainWishes" (228 : Nat)) "java/lang/String" "value" "[B") (Jvm.Term.int (13 : Int32))) (Jvm.Term.int (105 : Int32))) ∈ nfl := List.mem_of_getElem? (i := 568) (by decide +kernel)
set_option maxRecDepth 20000 in
theorem nf_569 : (Jvm.Cond.eq (Jvm.Term.elem (Jvm.Term.field (Jvm.Term.string "RainWishes" (228 : Nat)) "java/lang/String" "value" "[B") (Jvm.Term.int (14 : Int32))) (Jvm.Term.int (115 : Int32))) ∈ nfl := List.mem_of_getElem? (i := 569) (by decide +kernel)
set_option maxRecDepth 20000 in
theorem nf_570 : (Jvm.Cond.eq (Jvm.Term.elem (Jvm.Term.field (Jvm.Term.string "RainWishes" (228 : Nat)) "java/lang/String" "value" "[B") (Jvm.Term.int (15 : Int32))) (Jvm.Term.int (115 : Int32))) ∈ nfl := List.mem_of_getElem? (i := 570) (by decide +kernel)
set_option maxRecDepth 20000 in
theorem nf_571 : (Jvm.Cond.eq (Jvm.Term.elem (Jvm.Term.field (Jvm.Term.string "RainWishes" (228 : Nat)) "java/lang/String" "value" "[B") (Jvm.Term.int (16 : Int32))) (Jvm.Term.int (105 : Int32))) ∈ nfl := List.mem_of_getElem? (i := 571) (by decide +kernel)
set_option maxRecDepth 20000 in
theorem nf_572 : (Jvm.Cond.eq (Jvm.Term.elem (Jvm.Term.field (Jvm.Term.string "RainWishes" (228 : Nat)) "java/lang/String" "value" "[B") (Jvm.Term.int (17 : Int32))) (Jvm.Term.int (110 : Int32))) ∈ nfl := List.mem_of_getElem? (i := 572) (by decide +kernel)
set_option maxRecDepth 20000 in
theorem nf_573 : (Jvm.Cond.eq (Jvm.Term.elem (Jvm.Term.field (Jvm.Term.string "RainWishes" (228 : Nat)) "java/lang/String" "value" "[B") (Jvm.Term.int (18 : Int32))) (Jvm.Term.int (103 : Int32))) ∈ nfl := List.mem_of_getElem? (i := 573) (by decide +kernel)
set_option maxRecDepth 20000 in
theorem nf_574 : (Jvm.Cond.exactly (Jvm.Term.string "RainWishes" (315 : Nat)) "java/lang/String") ∈ nfl := List.mem_of_getElem? (i := 574) (by decide +kernel)
set_option maxRecDepth 20000 in
theorem nf_575 : (Jvm.Cond.eq (Jvm.Term.field (Jvm.Term.string "RainWishes" (315 : Nat)) "java/lang/String" "coder" "B") (Jvm.Term.int (0 : Int32))) ∈ nfl := List.mem_of_getElem? (i := 575) (by decide +kernel)
set_option maxRecDepth 20000 in
theorem nf_576 : (Jvm.Cond.arrayOf (Jvm.Term.field (Jvm.Term.string "RainWishes" (315 : Nat)) "java/lang/String" "value" "[B") Jvm.ClassFile.FieldType.byte) ∈ nfl := List.mem_of_getElem? (i := 576) (by decide +kernel)
set_option maxRecDepth 20000 in
theorem nf_577 : (Jvm.Cond.eq (Jvm.Term.length (Jvm.Term.field (Jvm.Term.string "RainWishes" (315 : Nat)) "java/lang/String" "value" "[B")) (Jvm.Term.int (11 : Int32))) ∈ nfl := List.mem_of_getElem? (i := 577) (by decide +kernel)
set_option maxRecDepth 20000 in
theorem nf_578 : (Jvm.Cond.eq (Jvm.Term.elem (Jvm.Term.field (Jvm.Term.string "RainWishes" (315 : Nat)) "java/lang/String" "value" "[B") (Jvm.Term.int (0 : Int32))) (Jvm.Term.int (110 : Int32))) ∈ nfl := List.mem_of_getElem? (i := 578) (by decide +kernel)
set_option maxRecDepth 20000 in
theorem nf_579 : (Jvm.Cond.eq (Jvm.Term.elem (Jvm.Term.field (Jvm.Term.string "RainWishes" (315 : Nat)) "java/lang/String" "value" "[B") (Jvm.Term.int (1 : Int32))) (Jvm.Term.int (111 : Int32))) ∈ nfl := List.mem_of_getElem? (i := 579) (by decide +kernel)
set_option maxRecDepth 20000 in
theorem nf_580 : (Jvm.Cond.eq (Jvm.Term.elem (Jvm.Term.field (Jvm.Term.string "RainWishes" (315 : Nat)) "java/lang/String" "value" "[B") (Jvm.Term.int (2 : Int32))) (Jvm.Term.int (32 : Int32))) ∈ nfl := List.mem_of_getElem? (i := 580) (by decide +kernel)
set_option maxRecDepth 20000 in
theorem nf_581 : (Jvm.Cond.eq (Jvm.Term.elem (Jvm.Term.field (Jvm.Term.string "RainWishes" (315 : Nat)) "java/lang/String" "value" "[B") (Jvm.Term.int (3 : Int32))) (Jvm.Term.int (112 : Int32))) ∈ nfl := List.mem_of_getElem? (i := 581) (by decide +kernel)
set_option maxRecDepth 20000 in
theorem nf_582 : (Jvm.Cond.eq (Jvm.Term.elem (Jvm.Term.field (Jvm.Term.string "RainWishes" (315 : Nat)) "java/lang/String" "value" "[B") (Jvm.Term.int (4 : Int32))) (Jvm.Term.int (97 : Int32))) ∈ nfl := List.mem_of_getElem? (i := 582) (by decide +kernel)
set_option maxRecDepth 20000 in
theorem nf_583 : (Jvm.Cond.eq (Jvm.Term.elem (Jvm.Term.field (Jvm.Term.string "RainWishes" (315 : Nat)) "java/lang/String" "value" "[B") (Jvm.Term.int (5 : Int32))) (Jvm.Term.int (114 : Int32))) ∈ nfl := List.mem_of_getElem? (i := 583) (by decide +kernel)
set_option maxRecDepth 20000 in
theorem nf_584 : (Jvm.Cond.eq (Jvm.Term.elem (Jvm.Term.field (Jvm.Term.string "RainWishes" (315 : Nat)) "java/lang/String" "value" "[B") (Jvm.Term.int (6 : Int32))) (Jvm.Term.int (105 : Int32))) ∈ nfl := List.mem_of_getElem? (i := 584) (by decide +kernel)
set_option maxRecDepth 20000 in
theorem nf_585 : (Jvm.Cond.eq (Jvm.Term.elem (Jvm.Term.field (Jvm.Term.string "RainWishes" (315 : Nat)) "java/lang/String" "value" "[B") (Jvm.Term.int (7 : Int32))) (Jvm.Term.int (115 : Int32))) ∈ nfl := List.mem_of_getElem? (i := 585) (by decide +kernel)
set_option maxRecDepth 20000 in
theorem nf_586 : (Jvm.Cond.eq (Jvm.Term.elem (Jvm.Term.field (Jvm.Term.string "RainWishes" (315 : Nat)) "java/lang/String" "value" "[B") (Jvm.Term.int (8 : Int32))) (Jvm.Term.int (104 : Int32))) ∈ nfl := List.mem_of_getElem? (i := 586) (by decide +kernel)
set_option maxRecDepth 20000 in
theorem nf_587 : (Jvm.Cond.eq (Jvm.Term.elem (Jvm.Term.field (Jvm.Term.string "RainWishes" (315 : Nat)) "java/lang/String" "value" "[B") (Jvm.Term.int (9 : Int32))) (Jvm.Term.int (101 : Int32))) ∈ nfl := List.mem_of_getElem? (i := 587) (by decide +kernel)
set_option maxRecDepth 20000 in
theorem nf_588 : (Jvm.Cond.eq (Jvm.Term.elem (Jvm.Term.field (Jvm.Term.string "RainWishes" (315 : Nat)) "java/lang/String" "value" "[B") (Jvm.Term.int (10 : Int32))) (Jvm.Term.int (115 : Int32))) ∈ nfl := List.mem_of_getElem? (i := 588) (by decide +kernel)
set_option maxRecDepth 20000 in
theorem nf_589 : (Jvm.Cond.exactly (Jvm.Term.string "RainWishes" (321 : Nat)) "java/lang/String") ∈ nfl := List.mem_of_getElem? (i := 589) (by decide +kernel)
set_option maxRecDepth 20000 in
theorem nf_590 : (Jvm.Cond.eq (Jvm.Term.field (Jvm.Term.string "RainWishes" (321 : Nat)) "java/lang/String" "coder" "B") (Jvm.Term.int (0 : Int32))) ∈ nfl := List.mem_of_getElem? (i := 590) (by decide +kernel)
set_option maxRecDepth 20000 in
theorem nf_591 : (Jvm.Cond.arrayOf (Jvm.Term.field (Jvm.Term.string "RainWishes" (321 : Nat)) "java/lang/String" "value" "[B") Jvm.ClassFile.FieldType.byte) ∈ nfl := List.mem_of_getElem? (i := 591) (by decide +kernel)
set_option maxRecDepth 20000 in
theorem nf_592 : (Jvm.Cond.eq (Jvm.Term.length (Jvm.Term.field (Jvm.Term.string "RainWishes" (321 : Nat)) "java/lang/String" "value" "[B")) (Jvm.Term.int (28 : Int32))) ∈ nfl := List.mem_of_getElem? (i := 592) (by decide +kernel)
set_option maxRecDepth 20000 in
theorem nf_593 : (Jvm.Cond.eq (Jvm.Term.elem (Jvm.Term.field (Jvm.Term.string "RainWishes" (321 : Nat)) "java/lang/String" "value" "[B") (Jvm.Term.int (0 : Int32))) (Jvm.Term.int (110 : Int32))) ∈ nfl := List.mem_of_getElem? (i := 593) (by decide +kernel)
set_option maxRecDepth 20000 in
theorem nf_594 : (Jvm.Cond.eq (Jvm.Term.elem (Jvm.Term.field (Jvm.Term.string "RainWishes" (321 : Nat)) "java/lang/String" "value" "[B") (Jvm.Term.int (1 : Int32))) (Jvm.Term.int (117 : Int32))) ∈ nfl := List.mem_of_getElem? (i := 594) (by decide +kernel)
set_option maxRecDepth 20000 in
theorem nf_595 : (Jvm.Cond.eq (Jvm.Term.elem (Jvm.Term.field (Jvm.Term.string "RainWishes" (321 : Nat)) "java/lang/String" "value" "[B") (Jvm.Term.int (2 : Int32))) (Jvm.Term.int (109 : Int32))) ∈ nfl := List.mem_of_getElem? (i := 595) (by decide +kernel)
set_option maxRecDepth 20000 in
theorem nf_596 : (Jvm.Cond.eq (Jvm.Term.elem (Jvm.Term.field (Jvm.Term.string "RainWishes" (321 : Nat)) "java/lang/String" "value" "[B") (Jvm.Term.int (3 : Int32))) (Jvm.Term.int (98 : Int32))) ∈ nfl := List.mem_of_getElem? (i := 596) (by decide +kernel)
set_option maxRecDepth 20000 in
theorem nf_597 : (Jvm.Cond.eq (Jvm.Term.elem (Jvm.Term.field (Jvm.Term.string "RainWishes" (321 : Nat)) "java/lang/String" "value" "[B") (Jvm.Term.int (4 : Int32))) (Jvm.Term.int (101 : Int32))) ∈ nfl := List.mem_of_getElem? (i := 597) (by decide +kernel)
set_option maxRecDepth 20000 in
theorem nf_598 : (Jvm.Cond.eq (Jvm.Term.elem (Jvm.Term.field (Jvm.Term.string "RainWishes" (321 : Nat)) "java/lang/String" "value" "[B") (Jvm.Term.int (5 : Int32))) (Jvm.Term.int (114 : Int32))) ∈ nfl := List.mem_of_getElem? (i := 598) (by decide +kernel)
set_option maxRecDepth 20000 in
theorem nf_599 : (Jvm.Cond.eq (Jvm.Term.elem (Jvm.Term.field (Jvm.Term.string "RainWishes" (321 : Nat)) "java/lang/String" "value" "[B") (Jvm.Term.int (6 : Int32))) (Jvm.Term.int (115 : Int32))) ∈ nfl := List.mem_of_getElem? (i := 599) (by decide +kernel)
set_option maxRecDepth 20000 in
theorem nf_600 : (Jvm.Cond.eq (Jvm.Term.elem (Jvm.Term.field (Jvm.Term.string "RainWishes" (321 : Nat)) "java/lang/String" "value" "[B") (Jvm.Term.int (7 : Int32))) (Jvm.Term.int (32 : Int32))) ∈ nfl := List.mem_of_getElem? (i := 600) (by decide +kernel)
set_option maxRecDepth 20000 in
theorem nf_601 : (Jvm.Cond.eq (Jvm.Term.elem (Jvm.Term.field (Jvm.Term.string "RainWishes" (321 : Nat)) "java/lang/String" "value" "[B") (Jvm.Term.int (8 : Int32))) (Jvm.Term.int (116 : Int32))) ∈ nfl := List.mem_of_getElem? (i := 601) (by decide +kernel)
set_option maxRecDepth 20000 in
theorem nf_602 : (Jvm.Cond.eq (Jvm.Term.elem (Jvm.Term.field (Jvm.Term.string "RainWishes" (321 : Nat)) "java/lang/String" "value" "[B") (Jvm.Term.int (9 : Int32))) (Jvm.Term.int (104 : Int32))) ∈ nfl := List.mem_of_getElem? (i := 602) (by decide +kernel)
set_option maxRecDepth 20000 in
theorem nf_603 : (Jvm.Cond.eq (Jvm.Term.elem (Jvm.Term.field (Jvm.Term.string "RainWishes" (321 : Nat)) "java/lang/String" "value" "[B") (Jvm.Term.int (10 : Int32))) (Jvm.Term.int (97 : Int32))) ∈ nfl := List.mem_of_getElem? (i := 603) (by decide +kernel)
set_option maxRecDepth 20000 in
theorem nf_604 : (Jvm.Cond.eq (Jvm.Term.elem (Jvm.Term.field (Jvm.Term.string "RainWishes" (321 : Nat)) "java/lang/String" "value" "[B") (Jvm.Term.int (11 : Int32))) (Jvm.Term.int (116 : Int32))) ∈ nfl := List.mem_of_getElem? (i := 604) (by decide +kernel)
set_option maxRecDepth 20000 in
theorem nf_605 : (Jvm.Cond.eq (Jvm.Term.elem (Jvm.Term.field (Jvm.Term.string "RainWishes" (321 : Nat)) "java/lang/String" "value" "[B") (Jvm.Term.int (12 : Int32))) (Jvm.Term.int (32 : Int32))) ∈ nfl := List.mem_of_getElem? (i := 605) (by decide +kernel)
set_option maxRecDepth 20000 in
theorem nf_606 : (Jvm.Cond.eq (Jvm.Term.elem (Jvm.Term.field (Jvm.Term.string "RainWishes" (321 : Nat)) "java/lang/String" "value" "[B") (Jvm.Term.int (13 : Int32))) (Jvm.Term.int (97 : Int32))) ∈ nfl := List.mem_of_getElem? (i := 606) (by decide +kernel)
set_option maxRecDepth 20000 in
theorem nf_607 : (Jvm.Cond.eq (Jvm.Term.elem (Jvm.Term.field (Jvm.Term.string "RainWishes" (321 : Nat)) "java/lang/String" "value" "[B") (Jvm.Term.int (14 : Int32))) (Jvm.Term.int (114 : Int32))) ∈ nfl := List.mem_of_getElem? (i := 607) (by decide +kernel)
set_option maxRecDepth 20000 in
theorem nf_608 : (Jvm.Cond.eq (Jvm.Term.elem (Jvm.Term.field (Jvm.Term.string "RainWishes" (321 : Nat)) "java/lang/String" "value" "[B") (Jvm.Term.int (15 : Int32))) (Jvm.Term.int (101 : Int32))) ∈ nfl := List.mem_of_getElem? (i := 608) (by decide +kernel)
set_option maxRecDepth 20000 in
theorem nf_609 : (Jvm.Cond.eq (Jvm.Term.elem (Jvm.Term.field (Jvm.Term.string "RainWishes" (321 : Nat)) "java/lang/String" "value" "[B") (Jvm.Term.int (16 : Int32))) (Jvm.Term.int (32 : Int32))) ∈ nfl := List.mem_of_getElem? (i := 609) (by decide +kernel)
set_option maxRecDepth 20000 in
theorem nf_610 : (Jvm.Cond.eq (Jvm.Term.elem (Jvm.Term.field (Jvm.Term.string "RainWishes" (321 : Nat)) "java/lang/String" "value" "[B") (Jvm.Term.int (17 : Int32))) (Jvm.Term.int (110 : Int32))) ∈ nfl := List.mem_of_getElem? (i := 610) (by decide +kernel)
set_option maxRecDepth 20000 in
theorem nf_611 : (Jvm.Cond.eq (Jvm.Term.elem (Jvm.Term.field (Jvm.Term.string "RainWishes" (321 : Nat)) "java/lang/String" "value" "[B") (Jvm.Term.int (18 : Int32))) (Jvm.Term.int (111 : Int32))) ∈ nfl := List.mem_of_getElem? (i := 611) (by decide +kernel)
set_option maxRecDepth 20000 in
theorem nf_612 : (Jvm.Cond.eq (Jvm.Term.elem (Jvm.Term.field (Jvm.Term.string "RainWishes" (321 : Nat)) "java/lang/String" "value" "[B") (Jvm.Term.int (19 : Int32))) (Jvm.Term.int (32 : Int32))) ∈ nfl := List.mem_of_getElem? (i := 612) (by decide +kernel)
set_option maxRecDepth 20000 in
theorem nf_613 : (Jvm.Cond.eq (Jvm.Term.elem (Jvm.Term.field (Jvm.Term.string "RainWishes" (321 : Nat)) "java/lang/String" "value" "[B") (Jvm.Term.int (20 : Int32))) (Jvm.Term.int (119 : Int32))) ∈ nfl := List.mem_of_getElem? (i := 613) (by decide +kernel)
set_option maxRecDepth 20000 in
theorem nf_614 : (Jvm.Cond.eq (Jvm.Term.elem (Jvm.Term.field (Jvm.Term.string "RainWishes" (321 : Nat)) "java/lang/String" "value" "[B") (Jvm.Term.int (21 : Int32))) (Jvm.Term.int (101 : Int32))) ∈ nfl := List.mem_of_getElem? (i := 614) (by decide +kernel)
set_option maxRecDepth 20000 in
theorem nf_615 : (Jvm.Cond.eq (Jvm.Term.elem (Jvm.Term.field (Jvm.Term.string "RainWishes" (321 : Nat)) "java/lang/String" "value" "[B") (Jvm.Term.int (22 : Int32))) (Jvm.Term.int (97 : Int32))) ∈ nfl := List.mem_of_getElem? (i := 615) (by decide +kernel)
set_option maxRecDepth 20000 in
theorem nf_616 : (Jvm.Cond.eq (Jvm.Term.elem (Jvm.Term.field (Jvm.Term.string "RainWishes" (321 : Nat)) "java/lang/String" "value" "[B") (Jvm.Term.int (23 : Int32))) (Jvm.Term.int (116 : Int32))) ∈ nfl := List.mem_of_getElem? (i := 616) (by decide +kernel)
set_option maxRecDepth 20000 in
theorem nf_617 : (Jvm.Cond.eq (Jvm.Term.elem (Jvm.Term.field (Jvm.Term.string "RainWishes" (321 : Nat)) "java/lang/String" "value" "[B") (Jvm.Term.int (24 : Int32))) (Jvm.Term.int (104 : Int32))) ∈ nfl := List.mem_of_getElem? (i := 617) (by decide +kernel)
set_option maxRecDepth 20000 in
theorem nf_618 : (Jvm.Cond.eq (Jvm.Term.elem (Jvm.Term.field (Jvm.Term.string "RainWishes" (321 : Nat)) "java/lang/String" "value" "[B") (Jvm.Term.int (25 : Int32))) (Jvm.Term.int (101 : Int32))) ∈ nfl := List.mem_of_getElem? (i := 618) (by decide +kernel)
set_option maxRecDepth 20000 in
theorem nf_619 : (Jvm.Cond.eq (Jvm.Term.elem (Jvm.Term.field (Jvm.Term.string "RainWishes" (321 : Nat)) "java/lang/String" "value" "[B") (Jvm.Term.int (26 : Int32))) (Jvm.Term.int (114 : Int32))) ∈ nfl := List.mem_of_getElem? (i := 619) (by decide +kernel)
set_option maxRecDepth 20000 in
theorem nf_620 : (Jvm.Cond.eq (Jvm.Term.elem (Jvm.Term.field (Jvm.Term.string "RainWishes" (321 : Nat)) "java/lang/String" "value" "[B") (Jvm.Term.int (27 : Int32))) (Jvm.Term.int (115 : Int32))) ∈ nfl := List.mem_of_getElem? (i := 620) (by decide +kernel)
set_option maxRecDepth 20000 in
theorem nf_621 : (Jvm.Cond.exactly (Jvm.Term.string "RainWishes" (336 : Nat)) "java/lang/String") ∈ nfl := List.mem_of_getElem? (i := 621) (by decide +kernel)
set_option maxRecDepth 20000 in
theorem nf_622 : (Jvm.Cond.eq (Jvm.Term.field (Jvm.Term.string "RainWishes" (336 : Nat)) "java/lang/String" "coder" "B") (Jvm.Term.int (0 : Int32))) ∈ nfl := List.mem_of_getElem? (i := 622) (by decide +kernel)
set_option maxRecDepth 20000 in
theorem nf_623 : (Jvm.Cond.arrayOf (Jvm.Term.field (Jvm.Term.string "RainWishes" (336 : Nat)) "java/lang/String" "value" "[B") Jvm.ClassFile.FieldType.byte) ∈ nfl := List.mem_of_getElem? (i := 623) (by decide +kernel)
set_option maxRecDepth 20000 in
theorem nf_624 : (Jvm.Cond.eq (Jvm.Term.length (Jvm.Term.field (Jvm.Term.string "RainWishes" (336 : Nat)) "java/lang/String" "value" "[B")) (Jvm.Term.int (24 : Int32))) ∈ nfl := List.mem_of_getElem? (i := 624) (by decide +kernel)
set_option maxRecDepth 20000 in
theorem nf_625 : (Jvm.Cond.eq (Jvm.Term.elem (Jvm.Term.field (Jvm.Term.string "RainWishes" (336 : Nat)) "java/lang/String" "value" "[B") (Jvm.Term.int (0 : Int32))) (Jvm.Term.int (110 : Int32))) ∈ nfl := List.mem_of_getElem? (i := 625) (by decide +kernel)
set_option maxRecDepth 20000 in
theorem nf_626 : (Jvm.Cond.eq (Jvm.Term.elem (Jvm.Term.field (Jvm.Term.string "RainWishes" (336 : Nat)) "java/lang/String" "value" "[B") (Jvm.Term.int (1 : Int32))) (Jvm.Term.int (117 : Int32))) ∈ nfl := List.mem_of_getElem? (i := 626) (by decide +kernel)
set_option maxRecDepth 20000 in
theorem nf_627 : (Jvm.Cond.eq (Jvm.Term.elem (Jvm.Term.field (Jvm.Term.string "RainWishes" (336 : Nat)) "java/lang/String" "value" "[B") (Jvm.Term.int (2 : Int32))) (Jvm.Term.int (109 : Int32))) ∈ nfl := List.mem_of_getElem? (i := 627) (by decide +kernel)
set_option maxRecDepth 20000 in
theorem nf_628 : (Jvm.Cond.eq (Jvm.Term.elem (Jvm.Term.field (Jvm.Term.string "RainWishes" (336 : Nat)) "java/lang/String" "value" "[B") (Jvm.Term.int (3 : Int32))) (Jvm.Term.int (98 : Int32))) ∈ nfl := List.mem_of_getElem? (i := 628) (by decide +kernel)
set_option maxRecDepth 20000 in
theorem nf_629 : (Jvm.Cond.eq (Jvm.Term.elem (Jvm.Term.field (Jvm.Term.string "RainWishes" (336 : Nat)) "java/lang/String" "value" "[B") (Jvm.Term.int (4 : Int32))) (Jvm.Term.int (101 : Int32))) ∈ nfl := List.mem_of_getElem? (i := 629) (by decide +kernel)
set_option maxRecDepth 20000 in
theorem nf_630 : (Jvm.Cond.eq (Jvm.Term.elem (Jvm.Term.field (Jvm.Term.string "RainWishes" (336 : Nat)) "java/lang/String" "value" "[B") (Jvm.Term.int (5 : Int32))) (Jvm.Term.int (114 : Int32))) ∈ nfl := List.mem_of_getElem? (i := 630) (by decide +kernel)
set_option maxRecDepth 20000 in
theorem nf_631 : (Jvm.Cond.eq (Jvm.Term.elem (Jvm.Term.field (Jvm.Term.string "RainWishes" (336 : Nat)) "java/lang/String" "value" "[B") (Jvm.Term.int (6 : Int32))) (Jvm.Term.int (115 : Int32))) ∈ nfl := List.mem_of_getElem? (i := 631) (by decide +kernel)
set_option maxRecDepth 20000 in
theorem nf_632 : (Jvm.Cond.eq (Jvm.Term.elem (Jvm.Term.field (Jvm.Term.string "RainWishes" (336 : Nat)) "java/lang/String" "value" "[B") (Jvm.Term.int (7 : Int32))) (Jvm.Term.int (32 : Int32))) ∈ nfl := List.mem_of_getElem? (i := 632) (by decide +kernel)
set_option maxRecDepth 20000 in
theorem nf_633 : (Jvm.Cond.eq (Jvm.Term.elem (Jvm.Term.field (Jvm.Term.string "RainWishes" (336 : Nat)) "java/lang/String" "value" "[B") (Jvm.Term.int (8 : Int32))) (Jvm.Term.int (116 : Int32))) ∈ nfl := List.mem_of_getElem? (i := 633) (by decide +kernel)
set_option maxRecDepth 20000 in
theorem nf_634 : (Jvm.Cond.eq (Jvm.Term.elem (Jvm.Term.field (Jvm.Term.string "RainWishes" (336 : Nat)) "java/lang/String" "value" "[B") (Jvm.Term.int (9 : Int32))) (Jvm.Term.int (104 : Int32))) ∈ nfl := List.mem_of_getElem? (i := 634) (by decide +kernel)
set_option maxRecDepth 20000 in
theorem nf_635 : (Jvm.Cond.eq (Jvm.Term.elem (Jvm.Term.field (Jvm.Term.string "RainWishes" (336 : Nat)) "java/lang/String" "value" "[B") (Jvm.Term.int (10 : Int32))) (Jvm.Term.int (97 : Int32))) ∈ nfl := List.mem_of_getElem? (i := 635) (by decide +kernel)
set_option maxRecDepth 20000 in
theorem nf_636 : (Jvm.Cond.eq (Jvm.Term.elem (Jvm.Term.field (Jvm.Term.string "RainWishes" (336 : Nat)) "java/lang/String" "value" "[B") (Jvm.Term.int (11 : Int32))) (Jvm.Term.int (116 : Int32))) ∈ nfl := List.mem_of_getElem? (i := 636) (by decide +kernel)
set_option maxRecDepth 20000 in
theorem nf_637 : (Jvm.Cond.eq (Jvm.Term.elem (Jvm.Term.field (Jvm.Term.string "RainWishes" (336 : Nat)) "java/lang/String" "value" "[B") (Jvm.Term.int (12 : Int32))) (Jvm.Term.int (32 : Int32))) ∈ nfl := List.mem_of_getElem? (i := 637) (by decide +kernel)
set_option maxRecDepth 20000 in
theorem nf_638 : (Jvm.Cond.eq (Jvm.Term.elem (Jvm.Term.field (Jvm.Term.string "RainWishes" (336 : Nat)) "java/lang/String" "value" "[B") (Jvm.Term.int (13 : Int32))) (Jvm.Term.int (115 : Int32))) ∈ nfl := List.mem_of_getElem? (i := 638) (by decide +kernel)
set_option maxRecDepth 20000 in
theorem nf_639 : (Jvm.Cond.eq (Jvm.Term.elem (Jvm.Term.field (Jvm.Term.string "RainWishes" (336 : Nat)) "java/lang/String" "value" "[B") (Jvm.Term.int (14 : Int32))) (Jvm.Term.int (97 : Int32))) ∈ nfl := List.mem_of_getElem? (i := 639) (by decide +kernel)
set_option maxRecDepth 20000 in
theorem nf_640 : (Jvm.Cond.eq (Jvm.Term.elem (Jvm.Term.field (Jvm.Term.string "RainWishes" (336 : Nat)) "java/lang/String" "value" "[B") (Jvm.Term.int (15 : Int32))) (Jvm.Term.int (121 : Int32))) ∈ nfl := List.mem_of_getElem? (i := 640) (by decide +kernel)
set_option maxRecDepth 20000 in
theorem nf_641 : (Jvm.Cond.eq (Jvm.Term.elem (Jvm.Term.field (Jvm.Term.string "RainWishes" (336 : Nat)) "java/lang/String" "value" "[B") (Jvm.Term.int (16 : Int32))) (Jvm.Term.int (32 : Int32))) ∈ nfl := List.mem_of_getElem? (i := 641) (by decide +kernel)
set_option maxRecDepth 20000 in
theorem nf_642 : (Jvm.Cond.eq (Jvm.Term.elem (Jvm.Term.field (Jvm.Term.string "RainWishes" (336 : Nat)) "java/lang/String" "value" "[B") (Jvm.Term.int (17 : Int32))) (Jvm.Term.int (110 : Int32))) ∈ nfl := List.mem_of_getElem? (i := 642) (by decide +kernel)
set_option maxRecDepth 20000 in
theorem nf_643 : (Jvm.Cond.eq (Jvm.Term.elem (Jvm.Term.field (Jvm.Term.string "RainWishes" (336 : Nat)) "java/lang/String" "value" "[B") (Jvm.Term.int (18 : Int32))) (Jvm.Term.int (111 : Int32))) ∈ nfl := List.mem_of_getElem? (i := 643) (by decide +kernel)
set_option maxRecDepth 20000 in
theorem nf_644 : (Jvm.Cond.eq (Jvm.Term.elem (Jvm.Term.field (Jvm.Term.string "RainWishes" (336 : Nat)) "java/lang/String" "value" "[B") (Jvm.Term.int (19 : Int32))) (Jvm.Term.int (116 : Int32))) ∈ nfl := List.mem_of_getElem? (i := 644) (by decide +kernel)
set_option maxRecDepth 20000 in
theorem nf_645 : (Jvm.Cond.eq (Jvm.Term.elem (Jvm.Term.field (Jvm.Term.string "RainWishes" (336 : Nat)) "java/lang/String" "value" "[B") (Jvm.Term.int (20 : Int32))) (Jvm.Term.int (104 : Int32))) ∈ nfl := List.mem_of_getElem? (i := 645) (by decide +kernel)
set_option maxRecDepth 20000 in
theorem nf_646 : (Jvm.Cond.eq (Jvm.Term.elem (Jvm.Term.field (Jvm.Term.string "RainWishes" (336 : Nat)) "java/lang/String" "value" "[B") (Jvm.Term.int (21 : Int32))) (Jvm.Term.int (105 : Int32))) ∈ nfl := List.mem_of_getElem? (i := 646) (by decide +kernel)
set_option maxRecDepth 20000 in
theorem nf_647 : (Jvm.Cond.eq (Jvm.Term.elem (Jvm.Term.field (Jvm.Term.string "RainWishes" (336 : Nat)) "java/lang/String" "value" "[B") (Jvm.Term.int (22 : Int32))) (Jvm.Term.int (110 : Int32))) ∈ nfl := List.mem_of_getElem? (i := 647) (by decide +kernel)
set_option maxRecDepth 20000 in
theorem nf_648 : (Jvm.Cond.eq (Jvm.Term.elem (Jvm.Term.field (Jvm.Term.string "RainWishes" (336 : Nat)) "java/lang/String" "value" "[B") (Jvm.Term.int (23 : Int32))) (Jvm.Term.int (103 : Int32))) ∈ nfl := List.mem_of_getElem? (i := 648) (by decide +kernel)
set_option maxRecDepth 20000 in
theorem nf_649 : (Jvm.Cond.exactly (Jvm.Term.string "RainWishes" (361 : Nat)) "java/lang/String") ∈ nfl := List.mem_of_getElem? (i := 649) (by decide +kernel)
set_option maxRecDepth 20000 in
theorem nf_650 : (Jvm.Cond.eq (Jvm.Term.field (Jvm.Term.string "RainWishes" (361 : Nat)) "java/lang/String" "coder" "B") (Jvm.Term.int (0 : Int32))) ∈ nfl := List.mem_of_getElem? (i := 650) (by decide +kernel)
set_option maxRecDepth 20000 in
theorem nf_651 : (Jvm.Cond.arrayOf (Jvm.Term.field (Jvm.Term.string "RainWishes" (361 : Nat)) "java/lang/String" "value" "[B") Jvm.ClassFile.FieldType.byte) ∈ nfl := List.mem_of_getElem? (i := 651) (by decide +kernel)
set_option maxRecDepth 20000 in
theorem nf_652 : (Jvm.Cond.eq (Jvm.Term.length (Jvm.Term.field (Jvm.Term.string "RainWishes" (361 : Nat)) "java/lang/String" "value" "[B")) (Jvm.Term.int (18 : Int32))) ∈ nfl := List.mem_of_getElem? (i := 652) (by decide +kernel)
set_option maxRecDepth 20000 in
theorem nf_653 : (Jvm.Cond.eq (Jvm.Term.elem (Jvm.Term.field (Jvm.Term.string "RainWishes" (361 : Nat)) "java/lang/String" "value" "[B") (Jvm.Term.int (0 : Int32))) (Jvm.Term.int (110 : Int32))) ∈ nfl := List.mem_of_getElem? (i := 653) (by decide +kernel)
set_option maxRecDepth 20000 in
theorem nf_654 : (Jvm.Cond.eq (Jvm.Term.elem (Jvm.Term.field (Jvm.Term.string "RainWishes" (361 : Nat)) "java/lang/String" "value" "[B") (Jvm.Term.int (1 : Int32))) (Jvm.Term.int (111 : Int32))) ∈ nfl := List.mem_of_getElem? (i := 654) (by decide +kernel)
set_option maxRecDepth 20000 in
theorem nf_655 : (Jvm.Cond.eq (Jvm.Term.elem (Jvm.Term.field (Jvm.Term.string "RainWishes" (361 : Nat)) "java/lang/String" "value" "[B") (Jvm.Term.int (2 : Int32))) (Jvm.Term.int (116 : Int32))) ∈ nfl := List.mem_of_getElem? (i := 655) (by decide +kernel)
set_option maxRecDepth 20000 in
theorem nf_656 : (Jvm.Cond.eq (Jvm.Term.elem (Jvm.Term.field (Jvm.Term.string "RainWishes" (361 : Nat)) "java/lang/String" "value" "[B") (Jvm.Term.int (3 : Int32))) (Jvm.Term.int (32 : Int32))) ∈ nfl := List.mem_of_getElem? (i := 656) (by decide +kernel)
set_option maxRecDepth 20000 in
theorem nf_657 : (Jvm.Cond.eq (Jvm.Term.elem (Jvm.Term.field (Jvm.Term.string "RainWishes" (361 : Nat)) "java/lang/String" "value" "[B") (Jvm.Term.int (4 : Int32))) (Jvm.Term.int (115 : Int32))) ∈ nfl := List.mem_of_getElem? (i := 657) (by decide +kernel)
set_option maxRecDepth 20000 in
theorem nf_658 : (Jvm.Cond.eq (Jvm.Term.elem (Jvm.Term.field (Jvm.Term.string "RainWishes" (361 : Nat)) "java/lang/String" "value" "[B") (Jvm.Term.int (5 : Int32))) (Jvm.Term.int (111 : Int32))) ∈ nfl := List.mem_of_getElem? (i := 658) (by decide +kernel)
set_option maxRecDepth 20000 in
theorem nf_659 : (Jvm.Cond.eq (Jvm.Term.elem (Jvm.Term.field (Jvm.Term.string "RainWishes" (361 : Nat)) "java/lang/String" "value" "[B") (Jvm.Term.int (6 : Int32))) (Jvm.Term.int (32 : Int32))) ∈ nfl := List.mem_of_getElem? (i := 659) (by decide +kernel)
set_option maxRecDepth 20000 in
theorem nf_660 : (Jvm.Cond.eq (Jvm.Term.elem (Jvm.Term.field (Jvm.Term.string "RainWishes" (361 : Nat)) "java/lang/String" "value" "[B") (Jvm.Term.int (7 : Int32))) (Jvm.Term.int (109 : Int32))) ∈ nfl := List.mem_of_getElem? (i := 660) (by decide +kernel)
set_option maxRecDepth 20000 in
theorem nf_661 : (Jvm.Cond.eq (Jvm.Term.elem (Jvm.Term.field (Jvm.Term.string "RainWishes" (361 : Nat)) "java/lang/String" "value" "[B") (Jvm.Term.int (8 : Int32))) (Jvm.Term.int (97 : Int32))) ∈ nfl := List.mem_of_getElem? (i := 661) (by decide +kernel)
set_option maxRecDepth 20000 in
theorem nf_662 : (Jvm.Cond.eq (Jvm.Term.elem (Jvm.Term.field (Jvm.Term.string "RainWishes" (361 : Nat)) "java/lang/String" "value" "[B") (Jvm.Term.int (9 : Int32))) (Jvm.Term.int (110 : Int32))) ∈ nfl := List.mem_of_getElem? (i := 662) (by decide +kernel)
set_option maxRecDepth 20000 in
theorem nf_663 : (Jvm.Cond.eq (Jvm.Term.elem (Jvm.Term.field (Jvm.Term.string "RainWishes" (361 : Nat)) "java/lang/String" "value" "[B") (Jvm.Term.int (10 : Int32))) (Jvm.Term.int (121 : Int32))) ∈ nfl := List.mem_of_getElem? (i := 663) (by decide +kernel)
set_option maxRecDepth 20000 in
theorem nf_664 : (Jvm.Cond.eq (Jvm.Term.elem (Jvm.Term.field (Jvm.Term.string "RainWishes" (361 : Nat)) "java/lang/String" "value" "[B") (Jvm.Term.int (11 : Int32))) (Jvm.Term.int (32 : Int32))) ∈ nfl := List.mem_of_getElem? (i := 664) (by decide +kernel)
set_option maxRecDepth 20000 in
theorem nf_665 : (Jvm.Cond.eq (Jvm.Term.elem (Jvm.Term.field (Jvm.Term.string "RainWishes" (361 : Nat)) "java/lang/String" "value" "[B") (Jvm.Term.int (12 : Int32))) (Jvm.Term.int (116 : Int32))) ∈ nfl := List.mem_of_getElem? (i := 665) (by decide +kernel)
set_option maxRecDepth 20000 in
theorem nf_666 : (Jvm.Cond.eq (Jvm.Term.elem (Jvm.Term.field (Jvm.Term.string "RainWishes" (361 : Nat)) "java/lang/String" "value" "[B") (Jvm.Term.int (13 : Int32))) (Jvm.Term.int (104 : Int32))) ∈ nfl := List.mem_of_getElem? (i := 666) (by decide +kernel)
set_option maxRecDepth 20000 in
theorem nf_667 : (Jvm.Cond.eq (Jvm.Term.elem (Jvm.Term.field (Jvm.Term.string "RainWishes" (361 : Nat)) "java/lang/String" "value" "[B") (Jvm.Term.int (14 : Int32))) (Jvm.Term.int (97 : Int32))) ∈ nfl := List.mem_of_getElem? (i := 667) (by decide +kernel)
set_option maxRecDepth 20000 in
theorem nf_668 : (Jvm.Cond.eq (Jvm.Term.elem (Jvm.Term.field (Jvm.Term.string "RainWishes" (361 : Nat)) "java/lang/String" "value" "[B") (Jvm.Term.int (15 : Int32))) (Jvm.Term.int (110 : Int32))) ∈ nfl := List.mem_of_getElem? (i := 668) (by decide +kernel)
set_option maxRecDepth 20000 in
theorem nf_669 : (Jvm.Cond.eq (Jvm.Term.elem (Jvm.Term.field (Jvm.Term.string "RainWishes" (361 : Nat)) "java/lang/String" "value" "[B") (Jvm.Term.int (16 : Int32))) (Jvm.Term.int (107 : Int32))) ∈ nfl := List.mem_of_getElem? (i := 669) (by decide +kernel)
set_option maxRecDepth 20000 in
theorem nf_670 : (Jvm.Cond.eq (Jvm.Term.elem (Jvm.Term.field (Jvm.Term.string "RainWishes" (361 : Nat)) "java/lang/String" "value" "[B") (Jvm.Term.int (17 : Int32))) (Jvm.Term.int (115 : Int32))) ∈ nfl := List.mem_of_getElem? (i := 670) (by decide +kernel)
set_option maxRecDepth 20000 in
theorem nf_671 : (Jvm.Cond.exactly (Jvm.Term.string "RainWishes" (366 : Nat)) "java/lang/String") ∈ nfl := List.mem_of_getElem? (i := 671) (by decide +kernel)
set_option maxRecDepth 20000 in
theorem nf_672 : (Jvm.Cond.eq (Jvm.Term.field (Jvm.Term.string "RainWishes" (366 : Nat)) "java/lang/String" "coder" "B") (Jvm.Term.int (0 : Int32))) ∈ nfl := List.mem_of_getElem? (i := 672) (by decide +kernel)
set_option maxRecDepth 20000 in
theorem nf_673 : (Jvm.Cond.arrayOf (Jvm.Term.field (Jvm.Term.string "RainWishes" (366 : Nat)) "java/lang/String" "value" "[B") Jvm.ClassFile.FieldType.byte) ∈ nfl := List.mem_of_getElem? (i := 673) (by decide +kernel)
set_option maxRecDepth 20000 in
theorem nf_674 : (Jvm.Cond.eq (Jvm.Term.length (Jvm.Term.field (Jvm.Term.string "RainWishes" (366 : Nat)) "java/lang/String" "value" "[B")) (Jvm.Term.int (16 : Int32))) ∈ nfl := List.mem_of_getElem? (i := 674) (by decide +kernel)
set_option maxRecDepth 20000 in
theorem nf_675 : (Jvm.Cond.eq (Jvm.Term.elem (Jvm.Term.field (Jvm.Term.string "RainWishes" (366 : Nat)) "java/lang/String" "value" "[B") (Jvm.Term.int (0 : Int32))) (Jvm.Term.int (116 : Int32))) ∈ nfl := List.mem_of_getElem? (i := 675) (by decide +kernel)
set_option maxRecDepth 20000 in
theorem nf_676 : (Jvm.Cond.eq (Jvm.Term.elem (Jvm.Term.field (Jvm.Term.string "RainWishes" (366 : Nat)) "java/lang/String" "value" "[B") (Jvm.Term.int (1 : Int32))) (Jvm.Term.int (104 : Int32))) ∈ nfl := List.mem_of_getElem? (i := 676) (by decide +kernel)
set_option maxRecDepth 20000 in
theorem nf_677 : (Jvm.Cond.eq (Jvm.Term.elem (Jvm.Term.field (Jvm.Term.string "RainWishes" (366 : Nat)) "java/lang/String" "value" "[B") (Jvm.Term.int (2 : Int32))) (Jvm.Term.int (101 : Int32))) ∈ nfl := List.mem_of_getElem? (i := 677) (by decide +kernel)
set_option maxRecDepth 20000 in
theorem nf_678 : (Jvm.Cond.eq (Jvm.Term.elem (Jvm.Term.field (Jvm.Term.string "RainWishes" (366 : Nat)) "java/lang/String" "value" "[B") (Jvm.Term.int (3 : Int32))) (Jvm.Term.int (32 : Int32))) ∈ nfl := List.mem_of_getElem? (i := 678) (by decide +kernel)
set_option maxRecDepth 20000 in
theorem nf_679 : (Jvm.Cond.eq (Jvm.Term.elem (Jvm.Term.field (Jvm.Term.string "RainWishes" (366 : Nat)) "java/lang/String" "value" "[B") (Jvm.Term.int (4 : Int32))) (Jvm.Term.int (119 : Int32))) ∈ nfl := List.mem_of_getElem? (i := 679) (by decide +kernel)
set_option maxRecDepth 20000 in
theorem nf_680 : (Jvm.Cond.eq (Jvm.Term.elem (Jvm.Term.field (Jvm.Term.string "RainWishes" (366 : Nat)) "java/lang/String" "value" "[B") (Jvm.Term.int (5 : Int32))) (Jvm.Term.int (105 : Int32))) ∈ nfl := List.mem_of_getElem? (i := 680) (by decide +kernel)
set_option maxRecDepth 20000 in
theorem nf_681 : (Jvm.Cond.eq (Jvm.Term.elem (Jvm.Term.field (Jvm.Term.string "RainWishes" (366 : Nat)) "java/lang/String" "value" "[B") (Jvm.Term.int (6 : Int32))) (Jvm.Term.int (115 : Int32))) ∈ nfl := List.mem_of_getElem? (i := 681) (by decide +kernel)
set_option maxRecDepth 20000 in
theorem nf_682 : (Jvm.Cond.eq (Jvm.Term.elem (Jvm.Term.field (Jvm.Term.string "RainWishes" (366 : Nat)) "java/lang/String" "value" "[B") (Jvm.Term.int (7 : Int32))) (Jvm.Term.int (104 : Int32))) ∈ nfl := List.mem_of_getElem? (i := 682) (by decide +kernel)
set_option maxRecDepth 20000 in
theorem nf_683 : (Jvm.Cond.eq (Jvm.Term.elem (Jvm.Term.field (Jvm.Term.string "RainWishes" (366 : Nat)) "java/lang/String" "value" "[B") (Jvm.Term.int (8 : Int32))) (Jvm.Term.int (32 : Int32))) ∈ nfl := List.mem_of_getElem? (i := 683) (by decide +kernel)
set_option maxRecDepth 20000 in
theorem nf_684 : (Jvm.Cond.eq (Jvm.Term.elem (Jvm.Term.field (Jvm.Term.string "RainWishes" (366 : Nat)) "java/lang/String" "value" "[B") (Jvm.Term.int (9 : Int32))) (Jvm.Term.int (105 : Int32))) ∈ nfl := List.mem_of_getElem? (i := 684) (by decide +kernel)
set_option maxRecDepth 20000 in
theorem nf_685 : (Jvm.Cond.eq (Jvm.Term.elem (Jvm.Term.field (Jvm.Term.string "RainWishes" (366 : Nat)) "java/lang/String" "value" "[B") (Jvm.Term.int (10 : Int32))) (Jvm.Term.int (115 : Int32))) ∈ nfl := List.mem_of_getElem? (i := 685) (by decide +kernel)
set_option maxRecDepth 20000 in
theorem nf_686 : (Jvm.Cond.eq (Jvm.Term.elem (Jvm.Term.field (Jvm.Term.string "RainWishes" (366 : Nat)) "java/lang/String" "value" "[B") (Jvm.Term.int (11 : Int32))) (Jvm.Term.int (32 : Int32))) ∈ nfl := List.mem_of_getElem? (i := 686) (by decide +kernel)
set_option maxRecDepth 20000 in
theorem nf_687 : (Jvm.Cond.eq (Jvm.Term.elem (Jvm.Term.field (Jvm.Term.string "RainWishes" (366 : Nat)) "java/lang/String" "value" "[B") (Jvm.Term.int (12 : Int32))) (Jvm.Term.int (111 : Int32))) ∈ nfl := List.mem_of_getElem? (i := 687) (by decide +kernel)
set_option maxRecDepth 20000 in
theorem nf_688 : (Jvm.Cond.eq (Jvm.Term.elem (Jvm.Term.field (Jvm.Term.string "RainWishes" (366 : Nat)) "java/lang/String" "value" "[B") (Jvm.Term.int (13 : Int32))) (Jvm.Term.int (112 : Int32))) ∈ nfl := List.mem_of_getElem? (i := 688) (by decide +kernel)
set_option maxRecDepth 20000 in
theorem nf_689 : (Jvm.Cond.eq (Jvm.Term.elem (Jvm.Term.field (Jvm.Term.string "RainWishes" (366 : Nat)) "java/lang/String" "value" "[B") (Jvm.Term.int (14 : Int32))) (Jvm.Term.int (101 : Int32))) ∈ nfl := List.mem_of_getElem? (i := 689) (by decide +kernel)
set_option maxRecDepth 20000 in
theorem nf_690 : (Jvm.Cond.eq (Jvm.Term.elem (Jvm.Term.field (Jvm.Term.string "RainWishes" (366 : Nat)) "java/lang/String" "value" "[B") (Jvm.Term.int (15 : Int32))) (Jvm.Term.int (110 : Int32))) ∈ nfl := List.mem_of_getElem? (i := 690) (by decide +kernel)
set_option maxRecDepth 20000 in
theorem nf_691 : (Jvm.Cond.exactly (Jvm.Term.string "RainWishes" (371 : Nat)) "java/lang/String") ∈ nfl := List.mem_of_getElem? (i := 691) (by decide +kernel)
set_option maxRecDepth 20000 in
theorem nf_692 : (Jvm.Cond.eq (Jvm.Term.field (Jvm.Term.string "RainWishes" (371 : Nat)) "java/lang/String" "coder" "B") (Jvm.Term.int (0 : Int32))) ∈ nfl := List.mem_of_getElem? (i := 692) (by decide +kernel)
set_option maxRecDepth 20000 in
theorem nf_693 : (Jvm.Cond.arrayOf (Jvm.Term.field (Jvm.Term.string "RainWishes" (371 : Nat)) "java/lang/String" "value" "[B") Jvm.ClassFile.FieldType.byte) ∈ nfl := List.mem_of_getElem? (i := 693) (by decide +kernel)
set_option maxRecDepth 20000 in
theorem nf_694 : (Jvm.Cond.eq (Jvm.Term.length (Jvm.Term.field (Jvm.Term.string "RainWishes" (371 : Nat)) "java/lang/String" "value" "[B")) (Jvm.Term.int (17 : Int32))) ∈ nfl := List.mem_of_getElem? (i := 694) (by decide +kernel)
set_option maxRecDepth 20000 in
theorem nf_695 : (Jvm.Cond.eq (Jvm.Term.elem (Jvm.Term.field (Jvm.Term.string "RainWishes" (371 : Nat)) "java/lang/String" "value" "[B") (Jvm.Term.int (0 : Int32))) (Jvm.Term.int (110 : Int32))) ∈ nfl := List.mem_of_getElem? (i := 695) (by decide +kernel)
set_option maxRecDepth 20000 in
theorem nf_696 : (Jvm.Cond.eq (Jvm.Term.elem (Jvm.Term.field (Jvm.Term.string "RainWishes" (371 : Nat)) "java/lang/String" "value" "[B") (Jvm.Term.int (1 : Int32))) (Jvm.Term.int (111 : Int32))) ∈ nfl := List.mem_of_getElem? (i := 696) (by decide +kernel)
set_option maxRecDepth 20000 in
theorem nf_697 : (Jvm.Cond.eq (Jvm.Term.elem (Jvm.Term.field (Jvm.Term.string "RainWishes" (371 : Nat)) "java/lang/String" "value" "[B") (Jvm.Term.int (2 : Int32))) (Jvm.Term.int (116 : Int32))) ∈ nfl := List.mem_of_getElem? (i := 697) (by decide +kernel)
set_option maxRecDepth 20000 in
theorem nf_698 : (Jvm.Cond.eq (Jvm.Term.elem (Jvm.Term.field (Jvm.Term.string "RainWishes" (371 : Nat)) "java/lang/String" "value" "[B") (Jvm.Term.int (3 : Int32))) (Jvm.Term.int (32 : Int32))) ∈ nfl := List.mem_of_getElem? (i := 698) (by decide +kernel)
set_option maxRecDepth 20000 in
theorem nf_699 : (Jvm.Cond.eq (Jvm.Term.elem (Jvm.Term.field (Jvm.Term.string "RainWishes" (371 : Nat)) "java/lang/String" "value" "[B") (Jvm.Term.int (4 : Int32))) (Jvm.Term.int (115 : Int32))) ∈ nfl := List.mem_of_getElem? (i := 699) (by decide +kernel)
set_option maxRecDepth 20000 in
theorem nf_700 : (Jvm.Cond.eq (Jvm.Term.elem (Jvm.Term.field (Jvm.Term.string "RainWishes" (371 : Nat)) "java/lang/String" "value" "[B") (Jvm.Term.int (5 : Int32))) (Jvm.Term.int (111 : Int32))) ∈ nfl := List.mem_of_getElem? (i := 700) (by decide +kernel)
set_option maxRecDepth 20000 in
theorem nf_701 : (Jvm.Cond.eq (Jvm.Term.elem (Jvm.Term.field (Jvm.Term.string "RainWishes" (371 : Nat)) "java/lang/String" "value" "[B") (Jvm.Term.int (6 : Int32))) (Jvm.Term.int (32 : Int32))) ∈ nfl := List.mem_of_getElem? (i := 701) (by decide +kernel)
set_option maxRecDepth 20000 in
theorem nf_702 : (Jvm.Cond.eq (Jvm.Term.elem (Jvm.Term.field (Jvm.Term.string "RainWishes" (371 : Nat)) "java/lang/String" "value" "[B") (Jvm.Term.int (7 : Int32))) (Jvm.Term.int (109 : Int32))) ∈ nfl := List.mem_of_getElem? (i := 702) (by decide +kernel)
set_option maxRecDepth 20000 in
theorem nf_703 : (Jvm.Cond.eq (Jvm.Term.elem (Jvm.Term.field (Jvm.Term.string "RainWishes" (371 : Nat)) "java/lang/String" "value" "[B") (Jvm.Term.int (8 : Int32))) (Jvm.Term.int (97 : Int32))) ∈ nfl := List.mem_of_getElem? (i := 703) (by decide +kernel)
set_option maxRecDepth 20000 in
theorem nf_704 : (Jvm.Cond.eq (Jvm.Term.elem (Jvm.Term.field (Jvm.Term.string "RainWishes" (371 : Nat)) "java/lang/String" "value" "[B") (Jvm.Term.int (9 : Int32))) (Jvm.Term.int (110 : Int32))) ∈ nfl := List.mem_of_getElem? (i := 704) (by decide +kernel)
set_option maxRecDepth 20000 in
theorem nf_705 : (Jvm.Cond.eq (Jvm.Term.elem (Jvm.Term.field (Jvm.Term.string "RainWishes" (371 : Nat)) "java/lang/String" "value" "[B") (Jvm.Term.int (10 : Int32))) (Jvm.Term.int (121 : Int32))) ∈ nfl := List.mem_of_getElem? (i := 705) (by decide +kernel)
set_option maxRecDepth 20000 in
theorem nf_706 : (Jvm.Cond.eq (Jvm.Term.elem (Jvm.Term.field (Jvm.Term.string "RainWishes" (371 : Nat)) "java/lang/String" "value" "[B") (Jvm.Term.int (11 : Int32))) (Jvm.Term.int (32 : Int32))) ∈ nfl := List.mem_of_getElem? (i := 706) (by decide +kernel)
set_option maxRecDepth 20000 in
theorem nf_707 : (Jvm.Cond.eq (Jvm.Term.elem (Jvm.Term.field (Jvm.Term.string "RainWishes" (371 : Nat)) "java/lang/String" "value" "[B") (Jvm.Term.int (12 : Int32))) (Jvm.Term.int (100 : Int32))) ∈ nfl := List.mem_of_getElem? (i := 707) (by decide +kernel)
set_option maxRecDepth 20000 in
theorem nf_708 : (Jvm.Cond.eq (Jvm.Term.elem (Jvm.Term.field (Jvm.Term.string "RainWishes" (371 : Nat)) "java/lang/String" "value" "[B") (Jvm.Term.int (13 : Int32))) (Jvm.Term.int (101 : Int32))) ∈ nfl := List.mem_of_getElem? (i := 708) (by decide +kernel)
set_option maxRecDepth 20000 in
theorem nf_709 : (Jvm.Cond.eq (Jvm.Term.elem (Jvm.Term.field (Jvm.Term.string "RainWishes" (371 : Nat)) "java/lang/String" "value" "[B") (Jvm.Term.int (14 : Int32))) (Jvm.Term.int (101 : Int32))) ∈ nfl := List.mem_of_getElem? (i := 709) (by decide +kernel)
set_option maxRecDepth 20000 in
theorem nf_710 : (Jvm.Cond.eq (Jvm.Term.elem (Jvm.Term.field (Jvm.Term.string "RainWishes" (371 : Nat)) "java/lang/String" "value" "[B") (Jvm.Term.int (15 : Int32))) (Jvm.Term.int (100 : Int32))) ∈ nfl := List.mem_of_getElem? (i := 710) (by decide +kernel)
set_option maxRecDepth 20000 in
theorem nf_711 : (Jvm.Cond.eq (Jvm.Term.elem (Jvm.Term.field (Jvm.Term.string "RainWishes" (371 : Nat)) "java/lang/String" "value" "[B") (Jvm.Term.int (16 : Int32))) (Jvm.Term.int (115 : Int32))) ∈ nfl := List.mem_of_getElem? (i := 711) (by decide +kernel)
set_option maxRecDepth 20000 in
theorem nf_712 : (Jvm.Cond.exactly (Jvm.Term.string "RainWishes" (380 : Nat)) "java/lang/String") ∈ nfl := List.mem_of_getElem? (i := 712) (by decide +kernel)
set_option maxRecDepth 20000 in
theorem nf_713 : (Jvm.Cond.eq (Jvm.Term.field (Jvm.Term.string "RainWishes" (380 : Nat)) "java/lang/String" "coder" "B") (Jvm.Term.int (0 : Int32))) ∈ nfl := List.mem_of_getElem? (i := 713) (by decide +kernel)
set_option maxRecDepth 20000 in
theorem nf_714 : (Jvm.Cond.arrayOf (Jvm.Term.field (Jvm.Term.string "RainWishes" (380 : Nat)) "java/lang/String" "value" "[B") Jvm.ClassFile.FieldType.byte) ∈ nfl := List.mem_of_getElem? (i := 714) (by decide +kernel)
set_option maxRecDepth 20000 in
theorem nf_715 : (Jvm.Cond.eq (Jvm.Term.length (Jvm.Term.field (Jvm.Term.string "RainWishes" (380 : Nat)) "java/lang/String" "value" "[B")) (Jvm.Term.int (17 : Int32))) ∈ nfl := List.mem_of_getElem? (i := 715) (by decide +kernel)
set_option maxRecDepth 20000 in
theorem nf_716 : (Jvm.Cond.eq (Jvm.Term.elem (Jvm.Term.field (Jvm.Term.string "RainWishes" (380 : Nat)) "java/lang/String" "value" "[B") (Jvm.Term.int (0 : Int32))) (Jvm.Term.int (110 : Int32))) ∈ nfl := List.mem_of_getElem? (i := 716) (by decide +kernel)
set_option maxRecDepth 20000 in
theorem nf_717 : (Jvm.Cond.eq (Jvm.Term.elem (Jvm.Term.field (Jvm.Term.string "RainWishes" (380 : Nat)) "java/lang/String" "value" "[B") (Jvm.Term.int (1 : Int32))) (Jvm.Term.int (111 : Int32))) ∈ nfl := List.mem_of_getElem? (i := 717) (by decide +kernel)
set_option maxRecDepth 20000 in
theorem nf_718 : (Jvm.Cond.eq (Jvm.Term.elem (Jvm.Term.field (Jvm.Term.string "RainWishes" (380 : Nat)) "java/lang/String" "value" "[B") (Jvm.Term.int (2 : Int32))) (Jvm.Term.int (116 : Int32))) ∈ nfl := List.mem_of_getElem? (i := 718) (by decide +kernel)
set_option maxRecDepth 20000 in
theorem nf_719 : (Jvm.Cond.eq (Jvm.Term.elem (Jvm.Term.field (Jvm.Term.string "RainWishes" (380 : Nat)) "java/lang/String" "value" "[B") (Jvm.Term.int (3 : Int32))) (Jvm.Term.int (32 : Int32))) ∈ nfl := List.mem_of_getElem? (i := 719) (by decide +kernel)
set_option maxRecDepth 20000 in
theorem nf_720 : (Jvm.Cond.eq (Jvm.Term.elem (Jvm.Term.field (Jvm.Term.string "RainWishes" (380 : Nat)) "java/lang/String" "value" "[B") (Jvm.Term.int (4 : Int32))) (Jvm.Term.int (115 : Int32))) ∈ nfl := List.mem_of_getElem? (i := 720) (by decide +kernel)
set_option maxRecDepth 20000 in
theorem nf_721 : (Jvm.Cond.eq (Jvm.Term.elem (Jvm.Term.field (Jvm.Term.string "RainWishes" (380 : Nat)) "java/lang/String" "value" "[B") (Jvm.Term.int (5 : Int32))) (Jvm.Term.int (111 : Int32))) ∈ nfl := List.mem_of_getElem? (i := 721) (by decide +kernel)
set_option maxRecDepth 20000 in
theorem nf_722 : (Jvm.Cond.eq (Jvm.Term.elem (Jvm.Term.field (Jvm.Term.string "RainWishes" (380 : Nat)) "java/lang/String" "value" "[B") (Jvm.Term.int (6 : Int32))) (Jvm.Term.int (32 : Int32))) ∈ nfl := List.mem_of_getElem? (i := 722) (by decide +kernel)
set_option maxRecDepth 20000 in
theorem nf_723 : (Jvm.Cond.eq (Jvm.Term.elem (Jvm.Term.field (Jvm.Term.string "RainWishes" (380 : Nat)) "java/lang/String" "value" "[B") (Jvm.Term.int (7 : Int32))) (Jvm.Term.int (109 : Int32))) ∈ nfl := List.mem_of_getElem? (i := 723) (by decide +kernel)
set_option maxRecDepth 20000 in
theorem nf_724 : (Jvm.Cond.eq (Jvm.Term.elem (Jvm.Term.field (Jvm.Term.string "RainWishes" (380 : Nat)) "java/lang/String" "value" "[B") (Jvm.Term.int (8 : Int32))) (Jvm.Term.int (97 : Int32))) ∈ nfl := List.mem_of_getElem? (i := 724) (by decide +kernel)
set_option maxRecDepth 20000 in
theorem nf_725 : (Jvm.Cond.eq (Jvm.Term.elem (Jvm.Term.field (Jvm.Term.string "RainWishes" (380 : Nat)) "java/lang/String" "value" "[B") (Jvm.Term.int (9 : Int32))) (Jvm.Term.int (110 : Int32))) ∈ nfl := List.mem_of_getElem? (i := 725) (by decide +kernel)
set_option maxRecDepth 20000 in
theorem nf_726 : (Jvm.Cond.eq (Jvm.Term.elem (Jvm.Term.field (Jvm.Term.string "RainWishes" (380 : Nat)) "java/lang/String" "value" "[B") (Jvm.Term.int (10 : Int32))) (Jvm.Term.int (121 : Int32))) ∈ nfl := List.mem_of_getElem? (i := 726) (by decide +kernel)
set_option maxRecDepth 20000 in
theorem nf_727 : (Jvm.Cond.eq (Jvm.Term.elem (Jvm.Term.field (Jvm.Term.string "RainWishes" (380 : Nat)) "java/lang/String" "value" "[B") (Jvm.Term.int (11 : Int32))) (Jvm.Term.int (32 : Int32))) ∈ nfl := List.mem_of_getElem? (i := 727) (by decide +kernel)
set_option maxRecDepth 20000 in
theorem nf_728 : (Jvm.Cond.eq (Jvm.Term.elem (Jvm.Term.field (Jvm.Term.string "RainWishes" (380 : Nat)) "java/lang/String" "value" "[B") (Jvm.Term.int (12 : Int32))) (Jvm.Term.int (116 : Int32))) ∈ nfl := List.mem_of_getElem? (i := 728) (by decide +kernel)
set_option maxRecDepth 20000 in
theorem nf_729 : (Jvm.Cond.eq (Jvm.Term.elem (Jvm.Term.field (Jvm.Term.string "RainWishes" (380 : Nat)) "java/lang/String" "value" "[B") (Jvm.Term.int (13 : Int32))) (Jvm.Term.int (105 : Int32))) ∈ nfl := List.mem_of_getElem? (i := 729) (by decide +kernel)
set_option maxRecDepth 20000 in
theorem nf_730 : (Jvm.Cond.eq (Jvm.Term.elem (Jvm.Term.field (Jvm.Term.string "RainWishes" (380 : Nat)) "java/lang/String" "value" "[B") (Jvm.Term.int (14 : Int32))) (Jvm.Term.int (109 : Int32))) ∈ nfl := List.mem_of_getElem? (i := 730) (by decide +kernel)
set_option maxRecDepth 20000 in
theorem nf_731 : (Jvm.Cond.eq (Jvm.Term.elem (Jvm.Term.field (Jvm.Term.string "RainWishes" (380 : Nat)) "java/lang/String" "value" "[B") (Jvm.Term.int (15 : Int32))) (Jvm.Term.int (101 : Int32))) ∈ nfl := List.mem_of_getElem? (i := 731) (by decide +kernel)
set_option maxRecDepth 20000 in
theorem nf_732 : (Jvm.Cond.eq (Jvm.Term.elem (Jvm.Term.field (Jvm.Term.string "RainWishes" (380 : Nat)) "java/lang/String" "value" "[B") (Jvm.Term.int (16 : Int32))) (Jvm.Term.int (115 : Int32))) ∈ nfl := List.mem_of_getElem? (i := 732) (by decide +kernel)
set_option maxRecDepth 20000 in
theorem nf_733 : (Jvm.Cond.exactly (Jvm.Term.string "RainWishes" (400 : Nat)) "java/lang/String") ∈ nfl := List.mem_of_getElem? (i := 733) (by decide +kernel)
set_option maxRecDepth 20000 in
theorem nf_734 : (Jvm.Cond.eq (Jvm.Term.field (Jvm.Term.string "RainWishes" (400 : Nat)) "java/lang/String" "coder" "B") (Jvm.Term.int (0 : Int32))) ∈ nfl := List.mem_of_getElem? (i := 734) (by decide +kernel)
set_option maxRecDepth 20000 in
theorem nf_735 : (Jvm.Cond.arrayOf (Jvm.Term.field (Jvm.Term.string "RainWishes" (400 : Nat)) "java/lang/String" "value" "[B") Jvm.ClassFile.FieldType.byte) ∈ nfl := List.mem_of_getElem? (i := 735) (by decide +kernel)
set_option maxRecDepth 20000 in
theorem nf_736 : (Jvm.Cond.eq (Jvm.Term.length (Jvm.Term.field (Jvm.Term.string "RainWishes" (400 : Nat)) "java/lang/String" "value" "[B")) (Jvm.Term.int (28 : Int32))) ∈ nfl := List.mem_of_getElem? (i := 736) (by decide +kernel)
set_option maxRecDepth 20000 in
theorem nf_737 : (Jvm.Cond.eq (Jvm.Term.elem (Jvm.Term.field (Jvm.Term.string "RainWishes" (400 : Nat)) "java/lang/String" "value" "[B") (Jvm.Term.int (0 : Int32))) (Jvm.Term.int (110 : Int32))) ∈ nfl := List.mem_of_getElem? (i := 737) (by decide +kernel)
set_option maxRecDepth 20000 in
theorem nf_738 : (Jvm.Cond.eq (Jvm.Term.elem (Jvm.Term.field (Jvm.Term.string "RainWishes" (400 : Nat)) "java/lang/String" "value" "[B") (Jvm.Term.int (1 : Int32))) (Jvm.Term.int (111 : Int32))) ∈ nfl := List.mem_of_getElem? (i := 738) (by decide +kernel)
set_option maxRecDepth 20000 in
theorem nf_739 : (Jvm.Cond.eq (Jvm.Term.elem (Jvm.Term.field (Jvm.Term.string "RainWishes" (400 : Nat)) "java/lang/String" "value" "[B") (Jvm.Term.int (2 : Int32))) (Jvm.Term.int (116 : Int32))) ∈ nfl := List.mem_of_getElem? (i := 739) (by decide +kernel)
set_option maxRecDepth 20000 in
theorem nf_740 : (Jvm.Cond.eq (Jvm.Term.elem (Jvm.Term.field (Jvm.Term.string "RainWishes" (400 : Nat)) "java/lang/String" "value" "[B") (Jvm.Term.int (3 : Int32))) (Jvm.Term.int (32 : Int32))) ∈ nfl := List.mem_of_getElem? (i := 740) (by decide +kernel)
set_option maxRecDepth 20000 in
theorem nf_741 : (Jvm.Cond.eq (Jvm.Term.elem (Jvm.Term.field (Jvm.Term.string "RainWishes" (400 : Nat)) "java/lang/String" "value" "[B") (Jvm.Term.int (4 : Int32))) (Jvm.Term.int (115 : Int32))) ∈ nfl := List.mem_of_getElem? (i := 741) (by decide +kernel)
set_option maxRecDepth 20000 in
theorem nf_742 : (Jvm.Cond.eq (Jvm.Term.elem (Jvm.Term.field (Jvm.Term.string "RainWishes" (400 : Nat)) "java/lang/String" "value" "[B") (Jvm.Term.int (5 : Int32))) (Jvm.Term.int (111 : Int32))) ∈ nfl := List.mem_of_getElem? (i := 742) (by decide +kernel)
set_option maxRecDepth 20000 in
theorem nf_743 : (Jvm.Cond.eq (Jvm.Term.elem (Jvm.Term.field (Jvm.Term.string "RainWishes" (400 : Nat)) "java/lang/String" "value" "[B") (Jvm.Term.int (6 : Int32))) (Jvm.Term.int (32 : Int32))) ∈ nfl := List.mem_of_getElem? (i := 743) (by decide +kernel)
set_option maxRecDepth 20000 in
theorem nf_744 : (Jvm.Cond.eq (Jvm.Term.elem (Jvm.Term.field (Jvm.Term.string "RainWishes" (400 : Nat)) "java/lang/String" "value" "[B") (Jvm.Term.int (7 : Int32))) (Jvm.Term.int (109 : Int32))) ∈ nfl := List.mem_of_getElem? (i := 744) (by decide +kernel)
set_option maxRecDepth 20000 in
theorem nf_745 : (Jvm.Cond.eq (Jvm.Term.elem (Jvm.Term.field (Jvm.Term.string "RainWishes" (400 : Nat)) "java/lang/String" "value" "[B") (Jvm.Term.int (8 : Int32))) (Jvm.Term.int (97 : Int32))) ∈ nfl := List.mem_of_getElem? (i := 745) (by decide +kernel)
set_option maxRecDepth 20000 in
theorem nf_746 : (Jvm.Cond.eq (Jvm.Term.elem (Jvm.Term.field (Jvm.Term.string "RainWishes" (400 : Nat)) "java/lang/String" "value" "[B") (Jvm.Term.int (9 : Int32))) (Jvm.Term.int (110 : Int32))) ∈ nfl := List.mem_of_getElem? (i := 746) (by decide +kernel)
set_option maxRecDepth 20000 in
theorem nf_747 : (Jvm.Cond.eq (Jvm.Term.elem (Jvm.Term.field (Jvm.Term.string "RainWishes" (400 : Nat)) "java/lang/String" "value" "[B") (Jvm.Term.int (10 : Int32))) (Jvm.Term.int (121 : Int32))) ∈ nfl := List.mem_of_getElem? (i := 747) (by decide +kernel)
set_option maxRecDepth 20000 in
theorem nf_748 : (Jvm.Cond.eq (Jvm.Term.elem (Jvm.Term.field (Jvm.Term.string "RainWishes" (400 : Nat)) "java/lang/String" "value" "[B") (Jvm.Term.int (11 : Int32))) (Jvm.Term.int (32 : Int32))) ∈ nfl := List.mem_of_getElem? (i := 748) (by decide +kernel)
set_option maxRecDepth 20000 in
theorem nf_749 : (Jvm.Cond.eq (Jvm.Term.elem (Jvm.Term.field (Jvm.Term.string "RainWishes" (400 : Nat)) "java/lang/String" "value" "[B") (Jvm.Term.int (12 : Int32))) (Jvm.Term.int (110 : Int32))) ∈ nfl := List.mem_of_getElem? (i := 749) (by decide +kernel)
set_option maxRecDepth 20000 in
theorem nf_750 : (Jvm.Cond.eq (Jvm.Term.elem (Jvm.Term.field (Jvm.Term.string "RainWishes" (400 : Nat)) "java/lang/String" "value" "[B") (Jvm.Term.int (13 : Int32))) (Jvm.Term.int (105 : Int32))) ∈ nfl := List.mem_of_getElem? (i := 750) (by decide +kernel)
set_option maxRecDepth 20000 in
theorem nf_751 : (Jvm.Cond.eq (Jvm.Term.elem (Jvm.Term.field (Jvm.Term.string "RainWishes" (400 : Nat)) "java/lang/String" "value" "[B") (Jvm.Term.int (14 : Int32))) (Jvm.Term.int (103 : Int32))) ∈ nfl := List.mem_of_getElem? (i := 751) (by decide +kernel)
set_option maxRecDepth 20000 in
theorem nf_752 : (Jvm.Cond.eq (Jvm.Term.elem (Jvm.Term.field (Jvm.Term.string "RainWishes" (400 : Nat)) "java/lang/String" "value" "[B") (Jvm.Term.int (15 : Int32))) (Jvm.Term.int (104 : Int32))) ∈ nfl := List.mem_of_getElem? (i := 752) (by decide +kernel)
set_option maxRecDepth 20000 in
theorem nf_753 : (Jvm.Cond.eq (Jvm.Term.elem (Jvm.Term.field (Jvm.Term.string "RainWishes" (400 : Nat)) "java/lang/String" "value" "[B") (Jvm.Term.int (16 : Int32))) (Jvm.Term.int (116 : Int32))) ∈ nfl := List.mem_of_getElem? (i := 753) (by decide +kernel)
set_option maxRecDepth 20000 in
theorem nf_754 : (Jvm.Cond.eq (Jvm.Term.elem (Jvm.Term.field (Jvm.Term.string "RainWishes" (400 : Nat)) "java/lang/String" "value" "[B") (Jvm.Term.int (17 : Int32))) (Jvm.Term.int (115 : Int32))) ∈ nfl := List.mem_of_getElem? (i := 754) (by decide +kernel)
set_option maxRecDepth 20000 in
theorem nf_755 : (Jvm.Cond.eq (Jvm.Term.elem (Jvm.Term.field (Jvm.Term.string "RainWishes" (400 : Nat)) "java/lang/String" "value" "[B") (Jvm.Term.int (18 : Int32))) (Jvm.Term.int (32 : Int32))) ∈ nfl := List.mem_of_getElem? (i := 755) (by decide +kernel)
set_option maxRecDepth 20000 in
theorem nf_756 : (Jvm.Cond.eq (Jvm.Term.elem (Jvm.Term.field (Jvm.Term.string "RainWishes" (400 : Nat)) "java/lang/String" "value" "[B") (Jvm.Term.int (19 : Int32))) (Jvm.Term.int (111 : Int32))) ∈ nfl := List.mem_of_getElem? (i := 756) (by decide +kernel)
set_option maxRecDepth 20000 in
theorem nf_757 : (Jvm.Cond.eq (Jvm.Term.elem (Jvm.Term.field (Jvm.Term.string "RainWishes" (400 : Nat)) "java/lang/String" "value" "[B") (Jvm.Term.int (20 : Int32))) (Jvm.Term.int (114 : Int32))) ∈ nfl := List.mem_of_getElem? (i := 757) (by decide +kernel)
set_option maxRecDepth 20000 in
theorem nf_758 : (Jvm.Cond.eq (Jvm.Term.elem (Jvm.Term.field (Jvm.Term.string "RainWishes" (400 : Nat)) "java/lang/String" "value" "[B") (Jvm.Term.int (21 : Int32))) (Jvm.Term.int (32 : Int32))) ∈ nfl := List.mem_of_getElem? (i := 758) (by decide +kernel)
set_option maxRecDepth 20000 in
theorem nf_759 : (Jvm.Cond.eq (Jvm.Term.elem (Jvm.Term.field (Jvm.Term.string "RainWishes" (400 : Nat)) "java/lang/String" "value" "[B") (Jvm.Term.int (22 : Int32))) (Jvm.Term.int (99 : Int32))) ∈ nfl := List.mem_of_getElem? (i := 759) (by decide +kernel)
set_option maxRecDepth 20000 in
theorem nf_760 : (Jvm.Cond.eq (Jvm.Term.elem (Jvm.Term.field (Jvm.Term.string "RainWishes" (400 : Nat)) "java/lang/String" "value" "[B") (Jvm.Term.int (23 : Int32))) (Jvm.Term.int (108 : Int32))) ∈ nfl := List.mem_of_getElem? (i := 760) (by decide +kernel)
set_option maxRecDepth 20000 in
theorem nf_761 : (Jvm.Cond.eq (Jvm.Term.elem (Jvm.Term.field (Jvm.Term.string "RainWishes" (400 : Nat)) "java/lang/String" "value" "[B") (Jvm.Term.int (24 : Int32))) (Jvm.Term.int (111 : Int32))) ∈ nfl := List.mem_of_getElem? (i := 761) (by decide +kernel)
set_option maxRecDepth 20000 in
theorem nf_762 : (Jvm.Cond.eq (Jvm.Term.elem (Jvm.Term.field (Jvm.Term.string "RainWishes" (400 : Nat)) "java/lang/String" "value" "[B") (Jvm.Term.int (25 : Int32))) (Jvm.Term.int (117 : Int32))) ∈ nfl := List.mem_of_getElem? (i := 762) (by decide +kernel)
set_option maxRecDepth 20000 in
theorem nf_763 : (Jvm.Cond.eq (Jvm.Term.elem (Jvm.Term.field (Jvm.Term.string "RainWishes" (400 : Nat)) "java/lang/String" "value" "[B") (Jvm.Term.int (26 : Int32))) (Jvm.Term.int (100 : Int32))) ∈ nfl := List.mem_of_getElem? (i := 763) (by decide +kernel)
set_option maxRecDepth 20000 in
theorem nf_764 : (Jvm.Cond.eq (Jvm.Term.elem (Jvm.Term.field (Jvm.Term.string "RainWishes" (400 : Nat)) "java/lang/String" "value" "[B") (Jvm.Term.int (27 : Int32))) (Jvm.Term.int (115 : Int32))) ∈ nfl := List.mem_of_getElem? (i := 764) (by decide +kernel)
set_option maxRecDepth 20000 in
theorem nf_765 : (Jvm.Cond.exactly (Jvm.Term.string "RainWishes" (403 : Nat)) "java/lang/String") ∈ nfl := List.mem_of_getElem? (i := 765) (by decide +kernel)
set_option maxRecDepth 20000 in
theorem nf_766 : (Jvm.Cond.eq (Jvm.Term.field (Jvm.Term.string "RainWishes" (403 : Nat)) "java/lang/String" "coder" "B") (Jvm.Term.int (0 : Int32))) ∈ nfl := List.mem_of_getElem? (i := 766) (by decide +kernel)
set_option maxRecDepth 20000 in
theorem nf_767 : (Jvm.Cond.arrayOf (Jvm.Term.field (Jvm.Term.string "RainWishes" (403 : Nat)) "java/lang/String" "value" "[B") Jvm.ClassFile.FieldType.byte) ∈ nfl := List.mem_of_getElem? (i := 767) (by decide +kernel)
set_option maxRecDepth 20000 in
theorem nf_768 : (Jvm.Cond.eq (Jvm.Term.length (Jvm.Term.field (Jvm.Term.string "RainWishes" (403 : Nat)) "java/lang/String" "value" "[B")) (Jvm.Term.int (27 : Int32))) ∈ nfl := List.mem_of_getElem? (i := 768) (by decide +kernel)
set_option maxRecDepth 20000 in
theorem nf_769 : (Jvm.Cond.eq (Jvm.Term.elem (Jvm.Term.field (Jvm.Term.string "RainWishes" (403 : Nat)) "java/lang/String" "value" "[B") (Jvm.Term.int (0 : Int32))) (Jvm.Term.int (110 : Int32))) ∈ nfl := List.mem_of_getElem? (i := 769) (by decide +kernel)
set_option maxRecDepth 20000 in
theorem nf_770 : (Jvm.Cond.eq (Jvm.Term.elem (Jvm.Term.field (Jvm.Term.string "RainWishes" (403 : Nat)) "java/lang/String" "value" "[B") (Jvm.Term.int (1 : Int32))) (Jvm.Term.int (117 : Int32))) ∈ nfl := List.mem_of_getElem? (i := 770) (by decide +kernel)
set_option maxRecDepth 20000 in
theorem nf_771 : (Jvm.Cond.eq (Jvm.Term.elem (Jvm.Term.field (Jvm.Term.string "RainWishes" (403 : Nat)) "java/lang/String" "value" "[B") (Jvm.Term.int (2 : Int32))) (Jvm.Term.int (109 : Int32))) ∈ nfl := List.mem_of_getElem? (i := 771) (by decide +kernel)
set_option maxRecDepth 20000 in
theorem nf_772 : (Jvm.Cond.eq (Jvm.Term.elem (Jvm.Term.field (Jvm.Term.string "RainWishes" (403 : Nat)) "java/lang/String" "value" "[B") (Jvm.Term.int (3 : Int32))) (Jvm.Term.int (98 : Int32))) ∈ nfl := List.mem_of_getElem? (i := 772) (by decide +kernel)
set_option maxRecDepth 20000 in
theorem nf_773 : (Jvm.Cond.eq (Jvm.Term.elem (Jvm.Term.field (Jvm.Term.string "RainWishes" (403 : Nat)) "java/lang/String" "value" "[B") (Jvm.Term.int (4 : Int32))) (Jvm.Term.int (101 : Int32))) ∈ nfl := List.mem_of_getElem? (i := 773) (by decide +kernel)
set_option maxRecDepth 20000 in
theorem nf_774 : (Jvm.Cond.eq (Jvm.Term.elem (Jvm.Term.field (Jvm.Term.string "RainWishes" (403 : Nat)) "java/lang/String" "value" "[B") (Jvm.Term.int (5 : Int32))) (Jvm.Term.int (114 : Int32))) ∈ nfl := List.mem_of_getElem? (i := 774) (by decide +kernel)
set_option maxRecDepth 20000 in
theorem nf_775 : (Jvm.Cond.eq (Jvm.Term.elem (Jvm.Term.field (Jvm.Term.string "RainWishes" (403 : Nat)) "java/lang/String" "value" "[B") (Jvm.Term.int (6 : Int32))) (Jvm.Term.int (115 : Int32))) ∈ nfl := List.mem_of_getElem? (i := 775) (by decide +kernel)
set_option maxRecDepth 20000 in
theorem nf_776 : (Jvm.Cond.eq (Jvm.Term.elem (Jvm.Term.field (Jvm.Term.string "RainWishes" (403 : Nat)) "java/lang/String" "value" "[B") (Jvm.Term.int (7 : Int32))) (Jvm.Term.int (32 : Int32))) ∈ nfl := List.mem_of_getElem? (i := 776) (by decide +kernel)
set_option maxRecDepth 20000 in
theorem nf_777 : (Jvm.Cond.eq (Jvm.Term.elem (Jvm.Term.field (Jvm.Term.string "RainWishes" (403 : Nat)) "java/lang/String" "value" "[B") (Jvm.Term.int (8 : Int32))) (Jvm.Term.int (116 : Int32))) ∈ nfl := List.mem_of_getElem? (i := 777) (by decide +kernel)
set_option maxRecDepth 20000 in
theorem nf_778 : (Jvm.Cond.eq (Jvm.Term.elem (Jvm.Term.field (Jvm.Term.string "RainWishes" (403 : Nat)) "java/lang/String" "value" "[B") (Jvm.Term.int (9 : Int32))) (Jvm.Term.int (104 : Int32))) ∈ nfl := List.mem_of_getElem? (i := 778) (by decide +kernel)
set_option maxRecDepth 20000 in
theorem nf_779 : (Jvm.Cond.eq (Jvm.Term.elem (Jvm.Term.field (Jvm.Term.string "RainWishes" (403 : Nat)) "java/lang/String" "value" "[B") (Jvm.Term.int (10 : Int32))) (Jvm.Term.int (97 : Int32))) ∈ nfl := List.mem_of_getElem? (i := 779) (by decide +kernel)
set_option maxRecDepth 20000 in
theorem nf_780 : (Jvm.Cond.eq (Jvm.Term.elem (Jvm.Term.field (Jvm.Term.string "RainWishes" (403 : Nat)) "java/lang/String" "value" "[B") (Jvm.Term.int (11 : Int32))) (Jvm.Term.int (116 : Int32))) ∈ nfl := List.mem_of_getElem? (i := 780) (by decide +kernel)
set_option maxRecDepth 20000 in
theorem nf_781 : (Jvm.Cond.eq (Jvm.Term.elem (Jvm.Term.field (Jvm.Term.string "RainWishes" (403 : Nat)) "java/lang/String" "value" "[B") (Jvm.Term.int (12 : Int32))) (Jvm.Term.int (32 : Int32))) ∈ nfl := List.mem_of_getElem? (i := 781) (by decide +kernel)
set_option maxRecDepth 20000 in
theorem nf_782 : (Jvm.Cond.eq (Jvm.Term.elem (Jvm.Term.field (Jvm.Term.string "RainWishes" (403 : Nat)) "java/lang/String" "value" "[B") (Jvm.Term.int (13 : Int32))) (Jvm.Term.int (97 : Int32))) ∈ nfl := List.mem_of_getElem? (i := 782) (by decide +kernel)
set_option maxRecDepth 20000 in
theorem nf_783 : (Jvm.Cond.eq (Jvm.Term.elem (Jvm.Term.field (Jvm.Term.string "RainWishes" (403 : Nat)) "java/lang/String" "value" "[B") (Jvm.Term.int (14 : Int32))) (Jvm.Term.int (114 : Int32))) ∈ nfl := List.mem_of_getElem? (i := 783) (by decide +kernel)
set_option maxRecDepth 20000 in
theorem nf_784 : (Jvm.Cond.eq (Jvm.Term.elem (Jvm.Term.field (Jvm.Term.string "RainWishes" (403 : Nat)) "java/lang/String" "value" "[B") (Jvm.Term.int (15 : Int32))) (Jvm.Term.int (101 : Int32))) ∈ nfl := List.mem_of_getElem? (i := 784) (by decide +kernel)
set_option maxRecDepth 20000 in
theorem nf_785 : (Jvm.Cond.eq (Jvm.Term.elem (Jvm.Term.field (Jvm.Term.string "RainWishes" (403 : Nat)) "java/lang/String" "value" "[B") (Jvm.Term.int (16 : Int32))) (Jvm.Term.int (32 : Int32))) ∈ nfl := List.mem_of_getElem? (i := 785) (by decide +kernel)
set_option maxRecDepth 20000 in
theorem nf_786 : (Jvm.Cond.eq (Jvm.Term.elem (Jvm.Term.field (Jvm.Term.string "RainWishes" (403 : Nat)) "java/lang/String" "value" "[B") (Jvm.Term.int (17 : Int32))) (Jvm.Term.int (110 : Int32))) ∈ nfl := List.mem_of_getElem? (i := 786) (by decide +kernel)
set_option maxRecDepth 20000 in
theorem nf_787 : (Jvm.Cond.eq (Jvm.Term.elem (Jvm.Term.field (Jvm.Term.string "RainWishes" (403 : Nat)) "java/lang/String" "value" "[B") (Jvm.Term.int (18 : Int32))) (Jvm.Term.int (111 : Int32))) ∈ nfl := List.mem_of_getElem? (i := 787) (by decide +kernel)
set_option maxRecDepth 20000 in
theorem nf_788 : (Jvm.Cond.eq (Jvm.Term.elem (Jvm.Term.field (Jvm.Term.string "RainWishes" (403 : Nat)) "java/lang/String" "value" "[B") (Jvm.Term.int (19 : Int32))) (Jvm.Term.int (32 : Int32))) ∈ nfl := List.mem_of_getElem? (i := 788) (by decide +kernel)
set_option maxRecDepth 20000 in
theorem nf_789 : (Jvm.Cond.eq (Jvm.Term.elem (Jvm.Term.field (Jvm.Term.string "RainWishes" (403 : Nat)) "java/lang/String" "value" "[B") (Jvm.Term.int (20 : Int32))) (Jvm.Term.int (119 : Int32))) ∈ nfl := List.mem_of_getElem? (i := 789) (by decide +kernel)
set_option maxRecDepth 20000 in
theorem nf_790 : (Jvm.Cond.eq (Jvm.Term.elem (Jvm.Term.field (Jvm.Term.string "RainWishes" (403 : Nat)) "java/lang/String" "value" "[B") (Jvm.Term.int (21 : Int32))) (Jvm.Term.int (101 : Int32))) ∈ nfl := List.mem_of_getElem? (i := 790) (by decide +kernel)
set_option maxRecDepth 20000 in
theorem nf_791 : (Jvm.Cond.eq (Jvm.Term.elem (Jvm.Term.field (Jvm.Term.string "RainWishes" (403 : Nat)) "java/lang/String" "value" "[B") (Jvm.Term.int (22 : Int32))) (Jvm.Term.int (105 : Int32))) ∈ nfl := List.mem_of_getElem? (i := 791) (by decide +kernel)
set_option maxRecDepth 20000 in
theorem nf_792 : (Jvm.Cond.eq (Jvm.Term.elem (Jvm.Term.field (Jvm.Term.string "RainWishes" (403 : Nat)) "java/lang/String" "value" "[B") (Jvm.Term.int (23 : Int32))) (Jvm.Term.int (103 : Int32))) ∈ nfl := List.mem_of_getElem? (i := 792) (by decide +kernel)
set_option maxRecDepth 20000 in
theorem nf_793 : (Jvm.Cond.eq (Jvm.Term.elem (Jvm.Term.field (Jvm.Term.string "RainWishes" (403 : Nat)) "java/lang/String" "value" "[B") (Jvm.Term.int (24 : Int32))) (Jvm.Term.int (104 : Int32))) ∈ nfl := List.mem_of_getElem? (i := 793) (by decide +kernel)
set_option maxRecDepth 20000 in
theorem nf_794 : (Jvm.Cond.eq (Jvm.Term.elem (Jvm.Term.field (Jvm.Term.string "RainWishes" (403 : Nat)) "java/lang/String" "value" "[B") (Jvm.Term.int (25 : Int32))) (Jvm.Term.int (116 : Int32))) ∈ nfl := List.mem_of_getElem? (i := 794) (by decide +kernel)
set_option maxRecDepth 20000 in
theorem nf_795 : (Jvm.Cond.eq (Jvm.Term.elem (Jvm.Term.field (Jvm.Term.string "RainWishes" (403 : Nat)) "java/lang/String" "value" "[B") (Jvm.Term.int (26 : Int32))) (Jvm.Term.int (115 : Int32))) ∈ nfl := List.mem_of_getElem? (i := 795) (by decide +kernel)
set_option maxRecDepth 20000 in
theorem nf_796 : (Jvm.Cond.exactly (Jvm.Term.string "RainWishes" (408 : Nat)) "java/lang/String") ∈ nfl := List.mem_of_getElem? (i := 796) (by decide +kernel)
set_option maxRecDepth 20000 in
theorem nf_797 : (Jvm.Cond.eq (Jvm.Term.field (Jvm.Term.string "RainWishes" (408 : Nat)) "java/lang/String" "coder" "B") (Jvm.Term.int (0 : Int32))) ∈ nfl := List.mem_of_getElem? (i := 797) (by decide +kernel)
set_option maxRecDepth 20000 in
theorem nf_798 : (Jvm.Cond.arrayOf (Jvm.Term.field (Jvm.Term.string "RainWishes" (408 : Nat)) "java/lang/String" "value" "[B") Jvm.ClassFile.FieldType.byte) ∈ nfl := List.mem_of_getElem? (i := 798) (by decide +kernel)
set_option maxRecDepth 20000 in
theorem nf_799 : (Jvm.Cond.eq (Jvm.Term.length (Jvm.Term.field (Jvm.Term.string "RainWishes" (408 : Nat)) "java/lang/String" "value" "[B")) (Jvm.Term.int (28 : Int32))) ∈ nfl := List.mem_of_getElem? (i := 799) (by decide +kernel)
set_option maxRecDepth 20000 in
theorem nf_800 : (Jvm.Cond.eq (Jvm.Term.elem (Jvm.Term.field (Jvm.Term.string "RainWishes" (408 : Nat)) "java/lang/String" "value" "[B") (Jvm.Term.int (0 : Int32))) (Jvm.Term.int (110 : Int32))) ∈ nfl := List.mem_of_getElem? (i := 800) (by decide +kernel)
set_option maxRecDepth 20000 in
theorem nf_801 : (Jvm.Cond.eq (Jvm.Term.elem (Jvm.Term.field (Jvm.Term.string "RainWishes" (408 : Nat)) "java/lang/String" "value" "[B") (Jvm.Term.int (1 : Int32))) (Jvm.Term.int (111 : Int32))) ∈ nfl := List.mem_of_getElem? (i := 801) (by decide +kernel)
set_option maxRecDepth 20000 in
theorem nf_802 : (Jvm.Cond.eq (Jvm.Term.elem (Jvm.Term.field (Jvm.Term.string "RainWishes" (408 : Nat)) "java/lang/String" "value" "[B") (Jvm.Term.int (2 : Int32))) (Jvm.Term.int (32 : Int32))) ∈ nfl := List.mem_of_getElem? (i := 802) (by decide +kernel)
set_option maxRecDepth 20000 in
theorem nf_803 : (Jvm.Cond.eq (Jvm.Term.elem (Jvm.Term.field (Jvm.Term.string "RainWishes" (408 : Nat)) "java/lang/String" "value" "[B") (Jvm.Term.int (3 : Int32))) (Jvm.Term.int (115 : Int32))) ∈ nfl := List.mem_of_getElem? (i := 803) (by decide +kernel)
set_option maxRecDepth 20000 in
theorem nf_804 : (Jvm.Cond.eq (Jvm.Term.elem (Jvm.Term.field (Jvm.Term.string "RainWishes" (408 : Nat)) "java/lang/String" "value" "[B") (Jvm.Term.int (4 : Int32))) (Jvm.Term.int (117 : Int32))) ∈ nfl := List.mem_of_getElem? (i := 804) (by decide +kernel)
set_option maxRecDepth 20000 in
theorem nf_805 : (Jvm.Cond.eq (Jvm.Term.elem (Jvm.Term.field (Jvm.Term.string "RainWishes" (408 : Nat)) "java/lang/String" "value" "[B") (Jvm.Term.int (5 : Int32))) (Jvm.Term.int (99 : Int32))) ∈ nfl := List.mem_of_getElem? (i := 805) (by decide +kernel)
set_option maxRecDepth 20000 in
theorem nf_806 : (Jvm.Cond.eq (Jvm.Term.elem (Jvm.Term.field (Jvm.Term.string "RainWishes" (408 : Nat)) "java/lang/String" "value" "[B") (Jvm.Term.int (6 : Int32))) (Jvm.Term.int (104 : Int32))) ∈ nfl := List.mem_of_getElem? (i := 806) (by decide +kernel)
set_option maxRecDepth 20000 in
theorem nf_807 : (Jvm.Cond.eq (Jvm.Term.elem (Jvm.Term.field (Jvm.Term.string "RainWishes" (408 : Nat)) "java/lang/String" "value" "[B") (Jvm.Term.int (7 : Int32))) (Jvm.Term.int (32 : Int32))) ∈ nfl := List.mem_of_getElem? (i := 807) (by decide +kernel)
set_option maxRecDepth 20000 in
theorem nf_808 : (Jvm.Cond.eq (Jvm.Term.elem (Jvm.Term.field (Jvm.Term.string "RainWishes" (408 : Nat)) "java/lang/String" "value" "[B") (Jvm.Term.int (8 : Int32))) (Jvm.Term.int (115 : Int32))) ∈ nfl := List.mem_of_getElem? (i := 808) (by decide +kernel)
set_option maxRecDepth 20000 in
theorem nf_809 : (Jvm.Cond.eq (Jvm.Term.elem (Jvm.Term.field (Jvm.Term.string "RainWishes" (408 : Nat)) "java/lang/String" "value" "[B") (Jvm.Term.int (9 : Int32))) (Jvm.Term.int (111 : Int32))) ∈ nfl := List.mem_of_getElem? (i := 809) (by decide +kernel)
set_option maxRecDepth 20000 in
theorem nf_810 : (Jvm.Cond.eq (Jvm.Term.elem (Jvm.Term.field (Jvm.Term.string "RainWishes" (408 : Nat)) "java/lang/String" "value" "[B") (Jvm.Term.int (10 : Int32))) (Jvm.Term.int (114 : Int32))) ∈ nfl := List.mem_of_getElem? (i := 810) (by decide +kernel)
set_option maxRecDepth 20000 in
theorem nf_811 : (Jvm.Cond.eq (Jvm.Term.elem (Jvm.Term.field (Jvm.Term.string "RainWishes" (408 : Nat)) "java/lang/String" "value" "[B") (Jvm.Term.int (11 : Int32))) (Jvm.Term.int (116 : Int32))) ∈ nfl := List.mem_of_getElem? (i := 811) (by decide +kernel)
set_option maxRecDepth 20000 in
theorem nf_812 : (Jvm.Cond.eq (Jvm.Term.elem (Jvm.Term.field (Jvm.Term.string "RainWishes" (408 : Nat)) "java/lang/String" "value" "[B") (Jvm.Term.int (12 : Int32))) (Jvm.Term.int (44 : Int32))) ∈ nfl := List.mem_of_getElem? (i := 812) (by decide +kernel)
set_option maxRecDepth 20000 in
theorem nf_813 : (Jvm.Cond.eq (Jvm.Term.elem (Jvm.Term.field (Jvm.Term.string "RainWishes" (408 : Nat)) "java/lang/String" "value" "[B") (Jvm.Term.int (13 : Int32))) (Jvm.Term.int (32 : Int32))) ∈ nfl := List.mem_of_getElem? (i := 813) (by decide +kernel)
set_option maxRecDepth 20000 in
theorem nf_814 : (Jvm.Cond.eq (Jvm.Term.elem (Jvm.Term.field (Jvm.Term.string "RainWishes" (408 : Nat)) "java/lang/String" "value" "[B") (Jvm.Term.int (14 : Int32))) (Jvm.Term.int (111 : Int32))) ∈ nfl := List.mem_of_getElem? (i := 814) (by decide +kernel)
set_option maxRecDepth 20000 in
theorem nf_815 : (Jvm.Cond.eq (Jvm.Term.elem (Jvm.Term.field (Jvm.Term.string "RainWishes" (408 : Nat)) "java/lang/String" "value" "[B") (Jvm.Term.int (15 : Int32))) (Jvm.Term.int (114 : Int32))) ∈ nfl := List.mem_of_getElem? (i := 815) (by decide +kernel)
set_option maxRecDepth 20000 in
theorem nf_816 : (Jvm.Cond.eq (Jvm.Term.elem (Jvm.Term.field (Jvm.Term.string "RainWishes" (408 : Nat)) "java/lang/String" "value" "[B") (Jvm.Term.int (16 : Int32))) (Jvm.Term.int (32 : Int32))) ∈ nfl := List.mem_of_getElem? (i := 816) (by decide +kernel)
set_option maxRecDepth 20000 in
theorem nf_817 : (Jvm.Cond.eq (Jvm.Term.elem (Jvm.Term.field (Jvm.Term.string "RainWishes" (408 : Nat)) "java/lang/String" "value" "[B") (Jvm.Term.int (17 : Int32))) (Jvm.Term.int (110 : Int32))) ∈ nfl := List.mem_of_getElem? (i := 817) (by decide +kernel)
set_option maxRecDepth 20000 in
theorem nf_818 : (Jvm.Cond.eq (Jvm.Term.elem (Jvm.Term.field (Jvm.Term.string "RainWishes" (408 : Nat)) "java/lang/String" "value" "[B") (Jvm.Term.int (18 : Int32))) (Jvm.Term.int (111 : Int32))) ∈ nfl := List.mem_of_getElem? (i := 818) (by decide +kernel)
set_option maxRecDepth 20000 in
theorem nf_819 : (Jvm.Cond.eq (Jvm.Term.elem (Jvm.Term.field (Jvm.Term.string "RainWishes" (408 : Nat)) "java/lang/String" "value" "[B") (Jvm.Term.int (19 : Int32))) (Jvm.Term.int (116 : Int32))) ∈ nfl := List.mem_of_getElem? (i := 819) (by decide +kernel)
set_option maxRecDepth 20000 in
theorem nf_820 : (Jvm.Cond.eq (Jvm.Term.elem (Jvm.Term.field (Jvm.Term.string "RainWishes" (408 : Nat)) "java/lang/String" "value" "[B") (Jvm.Term.int (20 : Int32))) (Jvm.Term.int (32 : Int32))) ∈ nfl := List.mem_of_getElem? (i := 820) (by decide +kernel)
set_option maxRecDepth 20000 in
theorem nf_821 : (Jvm.Cond.eq (Jvm.Term.elem (Jvm.Term.field (Jvm.Term.string "RainWishes" (408 : Nat)) "java/lang/String" "value" "[B") (Jvm.Term.int (21 : Int32))) (Jvm.Term.int (115 : Int32))) ∈ nfl := List.mem_of_getElem? (i := 821) (by decide +kernel)
set_option maxRecDepth 20000 in
theorem nf_822 : (Jvm.Cond.eq (Jvm.Term.elem (Jvm.Term.field (Jvm.Term.string "RainWishes" (408 : Nat)) "java/lang/String" "value" "[B") (Jvm.Term.int (22 : Int32))) (Jvm.Term.int (111 : Int32))) ∈ nfl := List.mem_of_getElem? (i := 822) (by decide +kernel)
set_option maxRecDepth 20000 in
theorem nf_823 : (Jvm.Cond.eq (Jvm.Term.elem (Jvm.Term.field (Jvm.Term.string "RainWishes" (408 : Nat)) "java/lang/String" "value" "[B") (Jvm.Term.int (23 : Int32))) (Jvm.Term.int (32 : Int32))) ∈ nfl := List.mem_of_getElem? (i := 823) (by decide +kernel)
set_option maxRecDepth 20000 in
theorem nf_824 : (Jvm.Cond.eq (Jvm.Term.elem (Jvm.Term.field (Jvm.Term.string "RainWishes" (408 : Nat)) "java/lang/String" "value" "[B") (Jvm.Term.int (24 : Int32))) (Jvm.Term.int (109 : Int32))) ∈ nfl := List.mem_of_getElem? (i := 824) (by decide +kernel)
set_option maxRecDepth 20000 in
theorem nf_825 : (Jvm.Cond.eq (Jvm.Term.elem (Jvm.Term.field (Jvm.Term.string "RainWishes" (408 : Nat)) "java/lang/String" "value" "[B") (Jvm.Term.int (25 : Int32))) (Jvm.Term.int (97 : Int32))) ∈ nfl := List.mem_of_getElem? (i := 825) (by decide +kernel)
set_option maxRecDepth 20000 in
theorem nf_826 : (Jvm.Cond.eq (Jvm.Term.elem (Jvm.Term.field (Jvm.Term.string "RainWishes" (408 : Nat)) "java/lang/String" "value" "[B") (Jvm.Term.int (26 : Int32))) (Jvm.Term.int (110 : Int32))) ∈ nfl := List.mem_of_getElem? (i := 826) (by decide +kernel)
set_option maxRecDepth 20000 in
theorem nf_827 : (Jvm.Cond.eq (Jvm.Term.elem (Jvm.Term.field (Jvm.Term.string "RainWishes" (408 : Nat)) "java/lang/String" "value" "[B") (Jvm.Term.int (27 : Int32))) (Jvm.Term.int (121 : Int32))) ∈ nfl := List.mem_of_getElem? (i := 827) (by decide +kernel)
set_option maxRecDepth 20000 in
theorem nf_828 : (Jvm.Cond.exactly (Jvm.Term.string "RainWishes" (414 : Nat)) "java/lang/String") ∈ nfl := List.mem_of_getElem? (i := 828) (by decide +kernel)
set_option maxRecDepth 20000 in
theorem nf_829 : (Jvm.Cond.eq (Jvm.Term.field (Jvm.Term.string "RainWishes" (414 : Nat)) "java/lang/String" "coder" "B") (Jvm.Term.int (0 : Int32))) ∈ nfl := List.mem_of_getElem? (i := 829) (by decide +kernel)
set_option maxRecDepth 20000 in
theorem nf_830 : (Jvm.Cond.arrayOf (Jvm.Term.field (Jvm.Term.string "RainWishes" (414 : Nat)) "java/lang/String" "value" "[B") Jvm.ClassFile.FieldType.byte) ∈ nfl := List.mem_of_getElem? (i := 830) (by decide +kernel)
set_option maxRecDepth 20000 in
theorem nf_831 : (Jvm.Cond.eq (Jvm.Term.length (Jvm.Term.field (Jvm.Term.string "RainWishes" (414 : Nat)) "java/lang/String" "value" "[B")) (Jvm.Term.int (13 : Int32))) ∈ nfl := List.mem_of_getElem? (i := 831) (by decide +kernel)
set_option maxRecDepth 20000 in
theorem nf_832 : (Jvm.Cond.eq (Jvm.Term.elem (Jvm.Term.field (Jvm.Term.string "RainWishes" (414 : Nat)) "java/lang/String" "value" "[B") (Jvm.Term.int (0 : Int32))) (Jvm.Term.int (110 : Int32))) ∈ nfl := List.mem_of_getElem? (i := 832) (by decide +kernel)
set_option maxRecDepth 20000 in
theorem nf_833 : (Jvm.Cond.eq (Jvm.Term.elem (Jvm.Term.field (Jvm.Term.string "RainWishes" (414 : Nat)) "java/lang/String" "value" "[B") (Jvm.Term.int (1 : Int32))) (Jvm.Term.int (111 : Int32))) ∈ nfl := List.mem_of_getElem? (i := 833) (by decide +kernel)
set_option maxRecDepth 20000 in
theorem nf_834 : (Jvm.Cond.eq (Jvm.Term.elem (Jvm.Term.field (Jvm.Term.string "RainWishes" (414 : Nat)) "java/lang/String" "value" "[B") (Jvm.Term.int (2 : Int32))) (Jvm.Term.int (32 : Int32))) ∈ nfl := List.mem_of_getElem? (i := 834) (by decide +kernel)
set_option maxRecDepth 20000 in
theorem nf_835 : (Jvm.Cond.eq (Jvm.Term.elem (Jvm.Term.field (Jvm.Term.string "RainWishes" (414 : Nat)) "java/lang/String" "value" "[B") (Jvm.Term.int (3 : Int32))) (Jvm.Term.int (115 : Int32))) ∈ nfl := List.mem_of_getElem? (i := 835) (by decide +kernel)
set_option maxRecDepth 20000 in
theorem nf_836 : (Jvm.Cond.eq (Jvm.Term.elem (Jvm.Term.field (Jvm.Term.string "RainWishes" (414 : Nat)) "java/lang/String" "value" "[B") (Jvm.Term.int (4 : Int32))) (Jvm.Term.int (117 : Int32))) ∈ nfl := List.mem_of_getElem? (i := 836) (by decide +kernel)
set_option maxRecDepth 20000 in
theorem nf_837 : (Jvm.Cond.eq (Jvm.Term.elem (Jvm.Term.field (Jvm.Term.string "RainWishes" (414 : Nat)) "java/lang/String" "value" "[B") (Jvm.Term.int (5 : Int32))) (Jvm.Term.int (99 : Int32))) ∈ nfl := List.mem_of_getElem? (i := 837) (by decide +kernel)
set_option maxRecDepth 20000 in
theorem nf_838 : (Jvm.Cond.eq (Jvm.Term.elem (Jvm.Term.field (Jvm.Term.string "RainWishes" (414 : Nat)) "java/lang/String" "value" "[B") (Jvm.Term.int (6 : Int32))) (Jvm.Term.int (104 : Int32))) ∈ nfl := List.mem_of_getElem? (i := 838) (by decide +kernel)
set_option maxRecDepth 20000 in
theorem nf_839 : (Jvm.Cond.eq (Jvm.Term.elem (Jvm.Term.field (Jvm.Term.string "RainWishes" (414 : Nat)) "java/lang/String" "value" "[B") (Jvm.Term.int (7 : Int32))) (Jvm.Term.int (32 : Int32))) ∈ nfl := List.mem_of_getElem? (i := 839) (by decide +kernel)
set_option maxRecDepth 20000 in
theorem nf_840 : (Jvm.Cond.eq (Jvm.Term.elem (Jvm.Term.field (Jvm.Term.string "RainWishes" (414 : Nat)) "java/lang/String" "value" "[B") (Jvm.Term.int (8 : Int32))) (Jvm.Term.int (112 : Int32))) ∈ nfl := List.mem_of_getElem? (i := 840) (by decide +kernel)
set_option maxRecDepth 20000 in
theorem nf_841 : (Jvm.Cond.eq (Jvm.Term.elem (Jvm.Term.field (Jvm.Term.string "RainWishes" (414 : Nat)) "java/lang/String" "value" "[B") (Jvm.Term.int (9 : Int32))) (Jvm.Term.int (108 : Int32))) ∈ nfl := List.mem_of_getElem? (i := 841) (by decide +kernel)
set_option maxRecDepth 20000 in
theorem nf_842 : (Jvm.Cond.eq (Jvm.Term.elem (Jvm.Term.field (Jvm.Term.string "RainWishes" (414 : Nat)) "java/lang/String" "value" "[B") (Jvm.Term.int (10 : Int32))) (Jvm.Term.int (97 : Int32))) ∈ nfl := List.mem_of_getElem? (i := 842) (by decide +kernel)
set_option maxRecDepth 20000 in
theorem nf_843 : (Jvm.Cond.eq (Jvm.Term.elem (Jvm.Term.field (Jvm.Term.string "RainWishes" (414 : Nat)) "java/lang/String" "value" "[B") (Jvm.Term.int (11 : Int32))) (Jvm.Term.int (99 : Int32))) ∈ nfl := List.mem_of_getElem? (i := 843) (by decide +kernel)
set_option maxRecDepth 20000 in
theorem nf_844 : (Jvm.Cond.eq (Jvm.Term.elem (Jvm.Term.field (Jvm.Term.string "RainWishes" (414 : Nat)) "java/lang/String" "value" "[B") (Jvm.Term.int (12 : Int32))) (Jvm.Term.int (101 : Int32))) ∈ nfl := List.mem_of_getElem? (i := 844) (by decide +kernel)
set_option maxRecDepth 20000 in
theorem nf_845 : (Jvm.Cond.exactly (Jvm.Term.string "RainWishes" (437 : Nat)) "java/lang/String") ∈ nfl := List.mem_of_getElem? (i := 845) (by decide +kernel)
set_option maxRecDepth 20000 in
theorem nf_846 : (Jvm.Cond.eq (Jvm.Term.field (Jvm.Term.string "RainWishes" (437 : Nat)) "java/lang/String" "coder" "B") (Jvm.Term.int (0 : Int32))) ∈ nfl := List.mem_of_getElem? (i := 846) (by decide +kernel)
set_option maxRecDepth 20000 in
theorem nf_847 : (Jvm.Cond.arrayOf (Jvm.Term.field (Jvm.Term.string "RainWishes" (437 : Nat)) "java/lang/String" "value" "[B") Jvm.ClassFile.FieldType.byte) ∈ nfl := List.mem_of_getElem? (i := 847) (by decide +kernel)
set_option maxRecDepth 20000 in
theorem nf_848 : (Jvm.Cond.eq (Jvm.Term.length (Jvm.Term.field (Jvm.Term.string "RainWishes" (437 : Nat)) "java/lang/String" "value" "[B")) (Jvm.Term.int (13 : Int32))) ∈ nfl := List.mem_of_getElem? (i := 848) (by decide +kernel)
set_option maxRecDepth 20000 in
theorem nf_849 : (Jvm.Cond.eq (Jvm.Term.elem (Jvm.Term.field (Jvm.Term.string "RainWishes" (437 : Nat)) "java/lang/String" "value" "[B") (Jvm.Term.int (0 : Int32))) (Jvm.Term.int (110 : Int32))) ∈ nfl := List.mem_of_getElem? (i := 849) (by decide +kernel)
set_option maxRecDepth 20000 in
theorem nf_850 : (Jvm.Cond.eq (Jvm.Term.elem (Jvm.Term.field (Jvm.Term.string "RainWishes" (437 : Nat)) "java/lang/String" "value" "[B") (Jvm.Term.int (1 : Int32))) (Jvm.Term.int (111 : Int32))) ∈ nfl := List.mem_of_getElem? (i := 850) (by decide +kernel)
set_option maxRecDepth 20000 in
theorem nf_851 : (Jvm.Cond.eq (Jvm.Term.elem (Jvm.Term.field (Jvm.Term.string "RainWishes" (437 : Nat)) "java/lang/String" "value" "[B") (Jvm.Term.int (2 : Int32))) (Jvm.Term.int (32 : Int32))) ∈ nfl := List.mem_of_getElem? (i := 851) (by decide +kernel)
set_option maxRecDepth 20000 in
theorem nf_852 : (Jvm.Cond.eq (Jvm.Term.elem (Jvm.Term.field (Jvm.Term.string "RainWishes" (437 : Nat)) "java/lang/String" "value" "[B") (Jvm.Term.int (3 : Int32))) (Jvm.Term.int (115 : Int32))) ∈ nfl := List.mem_of_getElem? (i := 852) (by decide +kernel)
set_option maxRecDepth 20000 in
theorem nf_853 : (Jvm.Cond.eq (Jvm.Term.elem (Jvm.Term.field (Jvm.Term.string "RainWishes" (437 : Nat)) "java/lang/String" "value" "[B") (Jvm.Term.int (4 : Int32))) (Jvm.Term.int (117 : Int32))) ∈ nfl := List.mem_of_getElem? (i := 853) (by decide +kernel)
set_option maxRecDepth 20000 in
theorem nf_854 : (Jvm.Cond.eq (Jvm.Term.elem (Jvm.Term.field (Jvm.Term.string "RainWishes" (437 : Nat)) "java/lang/String" "value" "[B") (Jvm.Term.int (5 : Int32))) (Jvm.Term.int (99 : Int32))) ∈ nfl := List.mem_of_getElem? (i := 854) (by decide +kernel)
set_option maxRecDepth 20000 in
theorem nf_855 : (Jvm.Cond.eq (Jvm.Term.elem (Jvm.Term.field (Jvm.Term.string "RainWishes" (437 : Nat)) "java/lang/String" "value" "[B") (Jvm.Term.int (6 : Int32))) (Jvm.Term.int (104 : Int32))) ∈ nfl := List.mem_of_getElem? (i := 855) (by decide +kernel)
set_option maxRecDepth 20000 in
theorem nf_856 : (Jvm.Cond.eq (Jvm.Term.elem (Jvm.Term.field (Jvm.Term.string "RainWishes" (437 : Nat)) "java/lang/String" "value" "[B") (Jvm.Term.int (7 : Int32))) (Jvm.Term.int (32 : Int32))) ∈ nfl := List.mem_of_getElem? (i := 856) (by decide +kernel)
set_option maxRecDepth 20000 in
theorem nf_857 : (Jvm.Cond.eq (Jvm.Term.elem (Jvm.Term.field (Jvm.Term.string "RainWishes" (437 : Nat)) "java/lang/String" "value" "[B") (Jvm.Term.int (8 : Int32))) (Jvm.Term.int (105 : Int32))) ∈ nfl := List.mem_of_getElem? (i := 857) (by decide +kernel)
set_option maxRecDepth 20000 in
theorem nf_858 : (Jvm.Cond.eq (Jvm.Term.elem (Jvm.Term.field (Jvm.Term.string "RainWishes" (437 : Nat)) "java/lang/String" "value" "[B") (Jvm.Term.int (9 : Int32))) (Jvm.Term.int (109 : Int32))) ∈ nfl := List.mem_of_getElem? (i := 858) (by decide +kernel)
set_option maxRecDepth 20000 in
theorem nf_859 : (Jvm.Cond.eq (Jvm.Term.elem (Jvm.Term.field (Jvm.Term.string "RainWishes" (437 : Nat)) "java/lang/String" "value" "[B") (Jvm.Term.int (10 : Int32))) (Jvm.Term.int (97 : Int32))) ∈ nfl := List.mem_of_getElem? (i := 859) (by decide +kernel)
set_option maxRecDepth 20000 in
theorem nf_860 : (Jvm.Cond.eq (Jvm.Term.elem (Jvm.Term.field (Jvm.Term.string "RainWishes" (437 : Nat)) "java/lang/String" "value" "[B") (Jvm.Term.int (11 : Int32))) (Jvm.Term.int (103 : Int32))) ∈ nfl := List.mem_of_getElem? (i := 860) (by decide +kernel)
set_option maxRecDepth 20000 in
theorem nf_861 : (Jvm.Cond.eq (Jvm.Term.elem (Jvm.Term.field (Jvm.Term.string "RainWishes" (437 : Nat)) "java/lang/String" "value" "[B") (Jvm.Term.int (12 : Int32))) (Jvm.Term.int (101 : Int32))) ∈ nfl := List.mem_of_getElem? (i := 861) (by decide +kernel)
set_option maxRecDepth 20000 in
theorem nf_862 : (Jvm.Cond.exactly (Jvm.Term.string "RainWishes" (435 : Nat)) "java/lang/String") ∈ nfl := List.mem_of_getElem? (i := 862) (by decide +kernel)
set_option maxRecDepth 20000 in
theorem nf_863 : (Jvm.Cond.eq (Jvm.Term.field (Jvm.Term.string "RainWishes" (435 : Nat)) "java/lang/String" "coder" "B") (Jvm.Term.int (0 : Int32))) ∈ nfl := List.mem_of_getElem? (i := 863) (by decide +kernel)
set_option maxRecDepth 20000 in
theorem nf_864 : (Jvm.Cond.arrayOf (Jvm.Term.field (Jvm.Term.string "RainWishes" (435 : Nat)) "java/lang/String" "value" "[B") Jvm.ClassFile.FieldType.byte) ∈ nfl := List.mem_of_getElem? (i := 864) (by decide +kernel)
set_option maxRecDepth 20000 in
theorem nf_865 : (Jvm.Cond.eq (Jvm.Term.length (Jvm.Term.field (Jvm.Term.string "RainWishes" (435 : Nat)) "java/lang/String" "value" "[B")) (Jvm.Term.int (22 : Int32))) ∈ nfl := List.mem_of_getElem? (i := 865) (by decide +kernel)
set_option maxRecDepth 20000 in
theorem nf_866 : (Jvm.Cond.eq (Jvm.Term.elem (Jvm.Term.field (Jvm.Term.string "RainWishes" (435 : Nat)) "java/lang/String" "value" "[B") (Jvm.Term.int (0 : Int32))) (Jvm.Term.int (110 : Int32))) ∈ nfl := List.mem_of_getElem? (i := 866) (by decide +kernel)
set_option maxRecDepth 20000 in
theorem nf_867 : (Jvm.Cond.eq (Jvm.Term.elem (Jvm.Term.field (Jvm.Term.string "RainWishes" (435 : Nat)) "java/lang/String" "value" "[B") (Jvm.Term.int (1 : Int32))) (Jvm.Term.int (111 : Int32))) ∈ nfl := List.mem_of_getElem? (i := 867) (by decide +kernel)
set_option maxRecDepth 20000 in
theorem nf_868 : (Jvm.Cond.eq (Jvm.Term.elem (Jvm.Term.field (Jvm.Term.string "RainWishes" (435 : Nat)) "java/lang/String" "value" "[B") (Jvm.Term.int (2 : Int32))) (Jvm.Term.int (32 : Int32))) ∈ nfl := List.mem_of_getElem? (i := 868) (by decide +kernel)
set_option maxRecDepth 20000 in
theorem nf_869 : (Jvm.Cond.eq (Jvm.Term.elem (Jvm.Term.field (Jvm.Term.string "RainWishes" (435 : Nat)) "java/lang/String" "value" "[B") (Jvm.Term.int (3 : Int32))) (Jvm.Term.int (115 : Int32))) ∈ nfl := List.mem_of_getElem? (i := 869) (by decide +kernel)
set_option maxRecDepth 20000 in
theorem nf_870 : (Jvm.Cond.eq (Jvm.Term.elem (Jvm.Term.field (Jvm.Term.string "RainWishes" (435 : Nat)) "java/lang/String" "value" "[B") (Jvm.Term.int (4 : Int32))) (Jvm.Term.int (117 : Int32))) ∈ nfl := List.mem_of_getElem? (i := 870) (by decide +kernel)
set_option maxRecDepth 20000 in
theorem nf_871 : (Jvm.Cond.eq (Jvm.Term.elem (Jvm.Term.field (Jvm.Term.string "RainWishes" (435 : Nat)) "java/lang/String" "value" "[B") (Jvm.Term.int (5 : Int32))) (Jvm.Term.int (99 : Int32))) ∈ nfl := List.mem_of_getElem? (i := 871) (by decide +kernel)
set_option maxRecDepth 20000 in
theorem nf_872 : (Jvm.Cond.eq (Jvm.Term.elem (Jvm.Term.field (Jvm.Term.string "RainWishes" (435 : Nat)) "java/lang/String" "value" "[B") (Jvm.Term.int (6 : Int32))) (Jvm.Term.int (104 : Int32))) ∈ nfl := List.mem_of_getElem? (i := 872) (by decide +kernel)
set_option maxRecDepth 20000 in
theorem nf_873 : (Jvm.Cond.eq (Jvm.Term.elem (Jvm.Term.field (Jvm.Term.string "RainWishes" (435 : Nat)) "java/lang/String" "value" "[B") (Jvm.Term.int (7 : Int32))) (Jvm.Term.int (32 : Int32))) ∈ nfl := List.mem_of_getElem? (i := 873) (by decide +kernel)
set_option maxRecDepth 20000 in
theorem nf_874 : (Jvm.Cond.eq (Jvm.Term.elem (Jvm.Term.field (Jvm.Term.string "RainWishes" (435 : Nat)) "java/lang/String" "value" "[B") (Jvm.Term.int (8 : Int32))) (Jvm.Term.int (105 : Int32))) ∈ nfl := List.mem_of_getElem? (i := 874) (by decide +kernel)
set_option maxRecDepth 20000 in
theorem nf_875 : (Jvm.Cond.eq (Jvm.Term.elem (Jvm.Term.field (Jvm.Term.string "RainWishes" (435 : Nat)) "java/lang/String" "value" "[B") (Jvm.Term.int (9 : Int32))) (Jvm.Term.int (109 : Int32))) ∈ nfl := List.mem_of_getElem? (i := 875) (by decide +kernel)
set_option maxRecDepth 20000 in
theorem nf_876 : (Jvm.Cond.eq (Jvm.Term.elem (Jvm.Term.field (Jvm.Term.string "RainWishes" (435 : Nat)) "java/lang/String" "value" "[B") (Jvm.Term.int (10 : Int32))) (Jvm.Term.int (97 : Int32))) ∈ nfl := List.mem_of_getElem? (i := 876) (by decide +kernel)
set_option maxRecDepth 20000 in
theorem nf_877 : (Jvm.Cond.eq (Jvm.Term.elem (Jvm.Term.field (Jvm.Term.string "RainWishes" (435 : Nat)) "java/lang/String" "value" "[B") (Jvm.Term.int (11 : Int32))) (Jvm.Term.int (103 : Int32))) ∈ nfl := List.mem_of_getElem? (i := 877) (by decide +kernel)
set_option maxRecDepth 20000 in
theorem nf_878 : (Jvm.Cond.eq (Jvm.Term.elem (Jvm.Term.field (Jvm.Term.string "RainWishes" (435 : Nat)) "java/lang/String" "value" "[B") (Jvm.Term.int (12 : Int32))) (Jvm.Term.int (101 : Int32))) ∈ nfl := List.mem_of_getElem? (i := 878) (by decide +kernel)
set_option maxRecDepth 20000 in
theorem nf_879 : (Jvm.Cond.eq (Jvm.Term.elem (Jvm.Term.field (Jvm.Term.string "RainWishes" (435 : Nat)) "java/lang/String" "value" "[B") (Jvm.Term.int (13 : Int32))) (Jvm.Term.int (32 : Int32))) ∈ nfl := List.mem_of_getElem? (i := 879) (by decide +kernel)
set_option maxRecDepth 20000 in
theorem nf_880 : (Jvm.Cond.eq (Jvm.Term.elem (Jvm.Term.field (Jvm.Term.string "RainWishes" (435 : Nat)) "java/lang/String" "value" "[B") (Jvm.Term.int (14 : Int32))) (Jvm.Term.int (119 : Int32))) ∈ nfl := List.mem_of_getElem? (i := 880) (by decide +kernel)
set_option maxRecDepth 20000 in
theorem nf_881 : (Jvm.Cond.eq (Jvm.Term.elem (Jvm.Term.field (Jvm.Term.string "RainWishes" (435 : Nat)) "java/lang/String" "value" "[B") (Jvm.Term.int (15 : Int32))) (Jvm.Term.int (97 : Int32))) ∈ nfl := List.mem_of_getElem? (i := 881) (by decide +kernel)
set_option maxRecDepth 20000 in
theorem nf_882 : (Jvm.Cond.eq (Jvm.Term.elem (Jvm.Term.field (Jvm.Term.string "RainWishes" (435 : Nat)) "java/lang/String" "value" "[B") (Jvm.Term.int (16 : Int32))) (Jvm.Term.int (115 : Int32))) ∈ nfl := List.mem_of_getElem? (i := 882) (by decide +kernel)
set_option maxRecDepth 20000 in
theorem nf_883 : (Jvm.Cond.eq (Jvm.Term.elem (Jvm.Term.field (Jvm.Term.string "RainWishes" (435 : Nat)) "java/lang/String" "value" "[B") (Jvm.Term.int (17 : Int32))) (Jvm.Term.int (32 : Int32))) ∈ nfl := List.mem_of_getElem? (i := 883) (by decide +kernel)
set_option maxRecDepth 20000 in
theorem nf_884 : (Jvm.Cond.eq (Jvm.Term.elem (Jvm.Term.field (Jvm.Term.string "RainWishes" (435 : Nat)) "java/lang/String" "value" "[B") (Jvm.Term.int (18 : Int32))) (Jvm.Term.int (109 : Int32))) ∈ nfl := List.mem_of_getElem? (i := 884) (by decide +kernel)
set_option maxRecDepth 20000 in
theorem nf_885 : (Jvm.Cond.eq (Jvm.Term.elem (Jvm.Term.field (Jvm.Term.string "RainWishes" (435 : Nat)) "java/lang/String" "value" "[B") (Jvm.Term.int (19 : Int32))) (Jvm.Term.int (97 : Int32))) ∈ nfl := List.mem_of_getElem? (i := 885) (by decide +kernel)
set_option maxRecDepth 20000 in
theorem nf_886 : (Jvm.Cond.eq (Jvm.Term.elem (Jvm.Term.field (Jvm.Term.string "RainWishes" (435 : Nat)) "java/lang/String" "value" "[B") (Jvm.Term.int (20 : Int32))) (Jvm.Term.int (100 : Int32))) ∈ nfl := List.mem_of_getElem? (i := 886) (by decide +kernel)
set_option maxRecDepth 20000 in
theorem nf_887 : (Jvm.Cond.eq (Jvm.Term.elem (Jvm.Term.field (Jvm.Term.string "RainWishes" (435 : Nat)) "java/lang/String" "value" "[B") (Jvm.Term.int (21 : Int32))) (Jvm.Term.int (101 : Int32))) ∈ nfl := List.mem_of_getElem? (i := 887) (by decide +kernel)
set_option maxRecDepth 20000 in
theorem nf_888 : (Jvm.Cond.exactly (Jvm.Term.string "RainWishesModel" (236 : Nat)) "java/lang/String") ∈ nfl := List.mem_of_getElem? (i := 888) (by decide +kernel)
set_option maxRecDepth 20000 in
theorem nf_889 : (Jvm.Cond.eq (Jvm.Term.field (Jvm.Term.string "RainWishesModel" (236 : Nat)) "java/lang/String" "coder" "B") (Jvm.Term.int (0 : Int32))) ∈ nfl := List.mem_of_getElem? (i := 889) (by decide +kernel)
set_option maxRecDepth 20000 in
theorem nf_890 : (Jvm.Cond.arrayOf (Jvm.Term.field (Jvm.Term.string "RainWishesModel" (236 : Nat)) "java/lang/String" "value" "[B") Jvm.ClassFile.FieldType.byte) ∈ nfl := List.mem_of_getElem? (i := 890) (by decide +kernel)
set_option maxRecDepth 20000 in
theorem nf_891 : (Jvm.Cond.eq (Jvm.Term.length (Jvm.Term.field (Jvm.Term.string "RainWishesModel" (236 : Nat)) "java/lang/String" "value" "[B")) (Jvm.Term.int (3 : Int32))) ∈ nfl := List.mem_of_getElem? (i := 891) (by decide +kernel)
set_option maxRecDepth 20000 in
theorem nf_892 : (Jvm.Cond.eq (Jvm.Term.elem (Jvm.Term.field (Jvm.Term.string "RainWishesModel" (236 : Nat)) "java/lang/String" "value" "[B") (Jvm.Term.int (0 : Int32))) (Jvm.Term.int (115 : Int32))) ∈ nfl := List.mem_of_getElem? (i := 892) (by decide +kernel)
set_option maxRecDepth 20000 in
theorem nf_893 : (Jvm.Cond.eq (Jvm.Term.elem (Jvm.Term.field (Jvm.Term.string "RainWishesModel" (236 : Nat)) "java/lang/String" "value" "[B") (Jvm.Term.int (1 : Int32))) (Jvm.Term.int (107 : Int32))) ∈ nfl := List.mem_of_getElem? (i := 893) (by decide +kernel)
set_option maxRecDepth 20000 in
theorem nf_894 : (Jvm.Cond.eq (Jvm.Term.elem (Jvm.Term.field (Jvm.Term.string "RainWishesModel" (236 : Nat)) "java/lang/String" "value" "[B") (Jvm.Term.int (2 : Int32))) (Jvm.Term.int (121 : Int32))) ∈ nfl := List.mem_of_getElem? (i := 894) (by decide +kernel)
set_option maxRecDepth 20000 in
theorem nf_896 : (Jvm.Cond.exactly (Jvm.Term.string "RainWishesModel" (221 : Nat)) "java/lang/String") ∈ nfl := List.mem_of_getElem? (i := 896) (by decide +kernel)
set_option maxRecDepth 20000 in
theorem nf_897 : (Jvm.Cond.eq (Jvm.Term.field (Jvm.Term.string "RainWishesModel" (221 : Nat)) "java/lang/String" "coder" "B") (Jvm.Term.int (0 : Int32))) ∈ nfl := List.mem_of_getElem? (i := 897) (by decide +kernel)
set_option maxRecDepth 20000 in
theorem nf_898 : (Jvm.Cond.arrayOf (Jvm.Term.field (Jvm.Term.string "RainWishesModel" (221 : Nat)) "java/lang/String" "value" "[B") Jvm.ClassFile.FieldType.byte) ∈ nfl := List.mem_of_getElem? (i := 898) (by decide +kernel)
set_option maxRecDepth 20000 in
theorem nf_899 : (Jvm.Cond.eq (Jvm.Term.length (Jvm.Term.field (Jvm.Term.string "RainWishesModel" (221 : Nat)) "java/lang/String" "value" "[B")) (Jvm.Term.int (6 : Int32))) ∈ nfl := List.mem_of_getElem? (i := 899) (by decide +kernel)
set_option maxRecDepth 20000 in
theorem nf_900 : (Jvm.Cond.eq (Jvm.Term.elem (Jvm.Term.field (Jvm.Term.string "RainWishesModel" (221 : Nat)) "java/lang/String" "value" "[B") (Jvm.Term.int (0 : Int32))) (Jvm.Term.int (99 : Int32))) ∈ nfl := List.mem_of_getElem? (i := 900) (by decide +kernel)
set_option maxRecDepth 20000 in
theorem nf_901 : (Jvm.Cond.eq (Jvm.Term.elem (Jvm.Term.field (Jvm.Term.string "RainWishesModel" (221 : Nat)) "java/lang/String" "value" "[B") (Jvm.Term.int (1 : Int32))) (Jvm.Term.int (108 : Int32))) ∈ nfl := List.mem_of_getElem? (i := 901) (by decide +kernel)
set_option maxRecDepth 20000 in
theorem nf_902 : (Jvm.Cond.eq (Jvm.Term.elem (Jvm.Term.field (Jvm.Term.string "RainWishesModel" (221 : Nat)) "java/lang/String" "value" "[B") (Jvm.Term.int (2 : Int32))) (Jvm.Term.int (111 : Int32))) ∈ nfl := List.mem_of_getElem? (i := 902) (by decide +kernel)
set_option maxRecDepth 20000 in
theorem nf_903 : (Jvm.Cond.eq (Jvm.Term.elem (Jvm.Term.field (Jvm.Term.string "RainWishesModel" (221 : Nat)) "java/lang/String" "value" "[B") (Jvm.Term.int (3 : Int32))) (Jvm.Term.int (117 : Int32))) ∈ nfl := List.mem_of_getElem? (i := 903) (by decide +kernel)
set_option maxRecDepth 20000 in
theorem nf_904 : (Jvm.Cond.eq (Jvm.Term.elem (Jvm.Term.field (Jvm.Term.string "RainWishesModel" (221 : Nat)) "java/lang/String" "value" "[B") (Jvm.Term.int (4 : Int32))) (Jvm.Term.int (100 : Int32))) ∈ nfl := List.mem_of_getElem? (i := 904) (by decide +kernel)
set_option maxRecDepth 20000 in
theorem nf_905 : (Jvm.Cond.eq (Jvm.Term.elem (Jvm.Term.field (Jvm.Term.string "RainWishesModel" (221 : Nat)) "java/lang/String" "value" "[B") (Jvm.Term.int (5 : Int32))) (Jvm.Term.int (115 : Int32))) ∈ nfl := List.mem_of_getElem? (i := 905) (by decide +kernel)
set_option maxRecDepth 20000 in
theorem nf_907 : (Jvm.Cond.exactly (Jvm.Term.string "RainWishesModel" (223 : Nat)) "java/lang/String") ∈ nfl := List.mem_of_getElem? (i := 907) (by decide +kernel)
set_option maxRecDepth 20000 in
theorem nf_908 : (Jvm.Cond.eq (Jvm.Term.field (Jvm.Term.string "RainWishesModel" (223 : Nat)) "java/lang/String" "coder" "B") (Jvm.Term.int (0 : Int32))) ∈ nfl := List.mem_of_getElem? (i := 908) (by decide +kernel)
set_option maxRecDepth 20000 in
theorem nf_909 : (Jvm.Cond.arrayOf (Jvm.Term.field (Jvm.Term.string "RainWishesModel" (223 : Nat)) "java/lang/String" "value" "[B") Jvm.ClassFile.FieldType.byte) ∈ nfl := List.mem_of_getElem? (i := 909) (by decide +kernel)
set_option maxRecDepth 20000 in
theorem nf_910 : (Jvm.Cond.eq (Jvm.Term.length (Jvm.Term.field (Jvm.Term.string "RainWishesModel" (223 : Nat)) "java/lang/String" "value" "[B")) (Jvm.Term.int (4 : Int32))) ∈ nfl := List.mem_of_getElem? (i := 910) (by decide +kernel)
set_option maxRecDepth 20000 in
theorem nf_911 : (Jvm.Cond.eq (Jvm.Term.elem (Jvm.Term.field (Jvm.Term.string "RainWishesModel" (223 : Nat)) "java/lang/String" "value" "[B") (Jvm.Term.int (0 : Int32))) (Jvm.Term.int (119 : Int32))) ∈ nfl := List.mem_of_getElem? (i := 911) (by decide +kernel)
set_option maxRecDepth 20000 in
theorem nf_912 : (Jvm.Cond.eq (Jvm.Term.elem (Jvm.Term.field (Jvm.Term.string "RainWishesModel" (223 : Nat)) "java/lang/String" "value" "[B") (Jvm.Term.int (1 : Int32))) (Jvm.Term.int (105 : Int32))) ∈ nfl := List.mem_of_getElem? (i := 912) (by decide +kernel)
set_option maxRecDepth 20000 in
theorem nf_913 : (Jvm.Cond.eq (Jvm.Term.elem (Jvm.Term.field (Jvm.Term.string "RainWishesModel" (223 : Nat)) "java/lang/String" "value" "[B") (Jvm.Term.int (2 : Int32))) (Jvm.Term.int (110 : Int32))) ∈ nfl := List.mem_of_getElem? (i := 913) (by decide +kernel)
set_option maxRecDepth 20000 in
theorem nf_914 : (Jvm.Cond.eq (Jvm.Term.elem (Jvm.Term.field (Jvm.Term.string "RainWishesModel" (223 : Nat)) "java/lang/String" "value" "[B") (Jvm.Term.int (3 : Int32))) (Jvm.Term.int (100 : Int32))) ∈ nfl := List.mem_of_getElem? (i := 914) (by decide +kernel)
set_option maxRecDepth 20000 in
theorem nf_916 : (Jvm.Cond.exactly (Jvm.Term.string "RainWishesModel" (225 : Nat)) "java/lang/String") ∈ nfl := List.mem_of_getElem? (i := 916) (by decide +kernel)
set_option maxRecDepth 20000 in
theorem nf_917 : (Jvm.Cond.eq (Jvm.Term.field (Jvm.Term.string "RainWishesModel" (225 : Nat)) "java/lang/String" "coder" "B") (Jvm.Term.int (0 : Int32))) ∈ nfl := List.mem_of_getElem? (i := 917) (by decide +kernel)
set_option maxRecDepth 20000 in
theorem nf_918 : (Jvm.Cond.arrayOf (Jvm.Term.field (Jvm.Term.string "RainWishesModel" (225 : Nat)) "java/lang/String" "value" "[B") Jvm.ClassFile.FieldType.byte) ∈ nfl := List.mem_of_getElem? (i := 918) (by decide +kernel)
set_option maxRecDepth 20000 in
theorem nf_919 : (Jvm.Cond.eq (Jvm.Term.length (Jvm.Term.field (Jvm.Term.string "RainWishesModel" (225 : Nat)) "java/lang/String" "value" "[B")) (Jvm.Term.int (4 : Int32))) ∈ nfl := List.mem_of_getElem? (i := 919) (by decide +kernel)
set_option maxRecDepth 20000 in
theorem nf_920 : (Jvm.Cond.eq (Jvm.Term.elem (Jvm.Term.field (Jvm.Term.string "RainWishesModel" (225 : Nat)) "java/lang/String" "value" "[B") (Jvm.Term.int (0 : Int32))) (Jvm.Term.int (119 : Int32))) ∈ nfl := List.mem_of_getElem? (i := 920) (by decide +kernel)
set_option maxRecDepth 20000 in
theorem nf_921 : (Jvm.Cond.eq (Jvm.Term.elem (Jvm.Term.field (Jvm.Term.string "RainWishesModel" (225 : Nat)) "java/lang/String" "value" "[B") (Jvm.Term.int (1 : Int32))) (Jvm.Term.int (105 : Int32))) ∈ nfl := List.mem_of_getElem? (i := 921) (by decide +kernel)
set_option maxRecDepth 20000 in
theorem nf_922 : (Jvm.Cond.eq (Jvm.Term.elem (Jvm.Term.field (Jvm.Term.string "RainWishesModel" (225 : Nat)) "java/lang/String" "value" "[B") (Jvm.Term.int (2 : Int32))) (Jvm.Term.int (115 : Int32))) ∈ nfl := List.mem_of_getElem? (i := 922) (by decide +kernel)
set_option maxRecDepth 20000 in
theorem nf_923 : (Jvm.Cond.eq (Jvm.Term.elem (Jvm.Term.field (Jvm.Term.string "RainWishesModel" (225 : Nat)) "java/lang/String" "value" "[B") (Jvm.Term.int (3 : Int32))) (Jvm.Term.int (104 : Int32))) ∈ nfl := List.mem_of_getElem? (i := 923) (by decide +kernel)
set_option maxRecDepth 20000 in
theorem nf_925 : (Jvm.Cond.exactly (Jvm.Term.string "RainWishesModel" (211 : Nat)) "java/lang/String") ∈ nfl := List.mem_of_getElem? (i := 925) (by decide +kernel)
set_option maxRecDepth 20000 in
theorem nf_926 : (Jvm.Cond.eq (Jvm.Term.field (Jvm.Term.string "RainWishesModel" (211 : Nat)) "java/lang/String" "coder" "B") (Jvm.Term.int (0 : Int32))) ∈ nfl := List.mem_of_getElem? (i := 926) (by decide +kernel)
set_option maxRecDepth 20000 in
theorem nf_927 : (Jvm.Cond.arrayOf (Jvm.Term.field (Jvm.Term.string "RainWishesModel" (211 : Nat)) "java/lang/String" "value" "[B") Jvm.ClassFile.FieldType.byte) ∈ nfl := List.mem_of_getElem? (i := 927) (by decide +kernel)
set_option maxRecDepth 20000 in
theorem nf_928 : (Jvm.Cond.eq (Jvm.Term.length (Jvm.Term.field (Jvm.Term.string "RainWishesModel" (211 : Nat)) "java/lang/String" "value" "[B")) (Jvm.Term.int (2 : Int32))) ∈ nfl := List.mem_of_getElem? (i := 928) (by decide +kernel)
set_option maxRecDepth 20000 in
theorem nf_929 : (Jvm.Cond.eq (Jvm.Term.elem (Jvm.Term.field (Jvm.Term.string "RainWishesModel" (211 : Nat)) "java/lang/String" "value" "[B") (Jvm.Term.int (0 : Int32))) (Jvm.Term.int (98 : Int32))) ∈ nfl := List.mem_of_getElem? (i := 929) (by decide +kernel)
set_option maxRecDepth 20000 in
theorem nf_930 : (Jvm.Cond.eq (Jvm.Term.elem (Jvm.Term.field (Jvm.Term.string "RainWishesModel" (211 : Nat)) "java/lang/String" "value" "[B") (Jvm.Term.int (1 : Int32))) (Jvm.Term.int (121 : Int32))) ∈ nfl := List.mem_of_getElem? (i := 930) (by decide +kernel)
set_option maxRecDepth 20000 in
theorem nf_932 : (Jvm.Cond.exactly (Jvm.Term.string "RainWishesModel" (217 : Nat)) "java/lang/String") ∈ nfl := List.mem_of_getElem? (i := 932) (by decide +kernel)
set_option maxRecDepth 20000 in
theorem nf_933 : (Jvm.Cond.eq (Jvm.Term.field (Jvm.Term.string "RainWishesModel" (217 : Nat)) "java/lang/String" "coder" "B") (Jvm.Term.int (0 : Int32))) ∈ nfl := List.mem_of_getElem? (i := 933) (by decide +kernel)
set_option maxRecDepth 20000 in
theorem nf_934 : (Jvm.Cond.arrayOf (Jvm.Term.field (Jvm.Term.string "RainWishesModel" (217 : Nat)) "java/lang/String" "value" "[B") Jvm.ClassFile.FieldType.byte) ∈ nfl := List.mem_of_getElem? (i := 934) (by decide +kernel)
set_option maxRecDepth 20000 in
theorem nf_935 : (Jvm.Cond.eq (Jvm.Term.length (Jvm.Term.field (Jvm.Term.string "RainWishesModel" (217 : Nat)) "java/lang/String" "value" "[B")) (Jvm.Term.int (6 : Int32))) ∈ nfl := List.mem_of_getElem? (i := 935) (by decide +kernel)
set_option maxRecDepth 20000 in
theorem nf_936 : (Jvm.Cond.eq (Jvm.Term.elem (Jvm.Term.field (Jvm.Term.string "RainWishesModel" (217 : Nat)) "java/lang/String" "value" "[B") (Jvm.Term.int (0 : Int32))) (Jvm.Term.int (119 : Int32))) ∈ nfl := List.mem_of_getElem? (i := 936) (by decide +kernel)
set_option maxRecDepth 20000 in
theorem nf_937 : (Jvm.Cond.eq (Jvm.Term.elem (Jvm.Term.field (Jvm.Term.string "RainWishesModel" (217 : Nat)) "java/lang/String" "value" "[B") (Jvm.Term.int (1 : Int32))) (Jvm.Term.int (101 : Int32))) ∈ nfl := List.mem_of_getElem? (i := 937) (by decide +kernel)
set_option maxRecDepth 20000 in
theorem nf_938 : (Jvm.Cond.eq (Jvm.Term.elem (Jvm.Term.field (Jvm.Term.string "RainWishesModel" (217 : Nat)) "java/lang/String" "value" "[B") (Jvm.Term.int (2 : Int32))) (Jvm.Term.int (105 : Int32))) ∈ nfl := List.mem_of_getElem? (i := 938) (by decide +kernel)
set_option maxRecDepth 20000 in
theorem nf_939 : (Jvm.Cond.eq (Jvm.Term.elem (Jvm.Term.field (Jvm.Term.string "RainWishesModel" (217 : Nat)) "java/lang/String" "value" "[B") (Jvm.Term.int (3 : Int32))) (Jvm.Term.int (103 : Int32))) ∈ nfl := List.mem_of_getElem? (i := 939) (by decide +kernel)
set_option maxRecDepth 20000 in
theorem nf_940 : (Jvm.Cond.eq (Jvm.Term.elem (Jvm.Term.field (Jvm.Term.string "RainWishesModel" (217 : Nat)) "java/lang/String" "value" "[B") (Jvm.Term.int (4 : Int32))) (Jvm.Term.int (104 : Int32))) ∈ nfl := List.mem_of_getElem? (i := 940) (by decide +kernel)
set_option maxRecDepth 20000 in
theorem nf_941 : (Jvm.Cond.eq (Jvm.Term.elem (Jvm.Term.field (Jvm.Term.string "RainWishesModel" (217 : Nat)) "java/lang/String" "value" "[B") (Jvm.Term.int (5 : Int32))) (Jvm.Term.int (116 : Int32))) ∈ nfl := List.mem_of_getElem? (i := 941) (by decide +kernel)
set_option maxRecDepth 20000 in
theorem nf_943 : (Jvm.Cond.exactly (Jvm.Term.string "RainWishesModel" (219 : Nat)) "java/lang/String") ∈ nfl := List.mem_of_getElem? (i := 943) (by decide +kernel)
set_option maxRecDepth 20000 in
theorem nf_944 : (Jvm.Cond.eq (Jvm.Term.field (Jvm.Term.string "RainWishesModel" (219 : Nat)) "java/lang/String" "coder" "B") (Jvm.Term.int (0 : Int32))) ∈ nfl := List.mem_of_getElem? (i := 944) (by decide +kernel)
set_option maxRecDepth 20000 in
theorem nf_945 : (Jvm.Cond.arrayOf (Jvm.Term.field (Jvm.Term.string "RainWishesModel" (219 : Nat)) "java/lang/String" "value" "[B") Jvm.ClassFile.FieldType.byte) ∈ nfl := List.mem_of_getElem? (i := 945) (by decide +kernel)
set_option maxRecDepth 20000 in
theorem nf_946 : (Jvm.Cond.eq (Jvm.Term.length (Jvm.Term.field (Jvm.Term.string "RainWishesModel" (219 : Nat)) "java/lang/String" "value" "[B")) (Jvm.Term.int (4 : Int32))) ∈ nfl := List.mem_of_getElem? (i := 946) (by decide +kernel)
set_option maxRecDepth 20000 in
theorem nf_947 : (Jvm.Cond.eq (Jvm.Term.elem (Jvm.Term.field (Jvm.Term.string "RainWishesModel" (219 : Nat)) "java/lang/String" "value" "[B") (Jvm.Term.int (0 : Int32))) (Jvm.Term.int (109 : Int32))) ∈ nfl := List.mem_of_getElem? (i := 947) (by decide +kernel)
set_option maxRecDepth 20000 in
theorem nf_948 : (Jvm.Cond.eq (Jvm.Term.elem (Jvm.Term.field (Jvm.Term.string "RainWishesModel" (219 : Nat)) "java/lang/String" "value" "[B") (Jvm.Term.int (1 : Int32))) (Jvm.Term.int (117 : Int32))) ∈ nfl := List.mem_of_getElem? (i := 948) (by decide +kernel)
set_option maxRecDepth 20000 in
theorem nf_949 : (Jvm.Cond.eq (Jvm.Term.elem (Jvm.Term.field (Jvm.Term.string "RainWishesModel" (219 : Nat)) "java/lang/String" "value" "[B") (Jvm.Term.int (2 : Int32))) (Jvm.Term.int (115 : Int32))) ∈ nfl := List.mem_of_getElem? (i := 949) (by decide +kernel)
set_option maxRecDepth 20000 in
theorem nf_950 : (Jvm.Cond.eq (Jvm.Term.elem (Jvm.Term.field (Jvm.Term.string "RainWishesModel" (219 : Nat)) "java/lang/String" "value" "[B") (Jvm.Term.int (3 : Int32))) (Jvm.Term.int (116 : Int32))) ∈ nfl := List.mem_of_getElem? (i := 950) (by decide +kernel)
set_option maxRecDepth 20000 in
theorem nf_952 : (Jvm.Cond.exactly (Jvm.Term.string "RainWishesModel" (176 : Nat)) "java/lang/String") ∈ nfl := List.mem_of_getElem? (i := 952) (by decide +kernel)
set_option maxRecDepth 20000 in
theorem nf_953 : (Jvm.Cond.eq (Jvm.Term.field (Jvm.Term.string "RainWishesModel" (176 : Nat)) "java/lang/String" "coder" "B") (Jvm.Term.int (0 : Int32))) ∈ nfl := List.mem_of_getElem? (i := 953) (by decide +kernel)
set_option maxRecDepth 20000 in
theorem nf_954 : (Jvm.Cond.arrayOf (Jvm.Term.field (Jvm.Term.string "RainWishesModel" (176 : Nat)) "java/lang/String" "value" "[B") Jvm.ClassFile.FieldType.byte) ∈ nfl := List.mem_of_getElem? (i := 954) (by decide +kernel)
set_option maxRecDepth 20000 in
theorem nf_955 : (Jvm.Cond.eq (Jvm.Term.length (Jvm.Term.field (Jvm.Term.string "RainWishesModel" (176 : Nat)) "java/lang/String" "value" "[B")) (Jvm.Term.int (3 : Int32))) ∈ nfl := List.mem_of_getElem? (i := 955) (by decide +kernel)
set_option maxRecDepth 20000 in
theorem nf_956 : (Jvm.Cond.eq (Jvm.Term.elem (Jvm.Term.field (Jvm.Term.string "RainWishesModel" (176 : Nat)) "java/lang/String" "value" "[B") (Jvm.Term.int (0 : Int32))) (Jvm.Term.int (110 : Int32))) ∈ nfl := List.mem_of_getElem? (i := 956) (by decide +kernel)
set_option maxRecDepth 20000 in
theorem nf_957 : (Jvm.Cond.eq (Jvm.Term.elem (Jvm.Term.field (Jvm.Term.string "RainWishesModel" (176 : Nat)) "java/lang/String" "value" "[B") (Jvm.Term.int (1 : Int32))) (Jvm.Term.int (111 : Int32))) ∈ nfl := List.mem_of_getElem? (i := 957) (by decide +kernel)
set_option maxRecDepth 20000 in
theorem nf_958 : (Jvm.Cond.eq (Jvm.Term.elem (Jvm.Term.field (Jvm.Term.string "RainWishesModel" (176 : Nat)) "java/lang/String" "value" "[B") (Jvm.Term.int (2 : Int32))) (Jvm.Term.int (116 : Int32))) ∈ nfl := List.mem_of_getElem? (i := 958) (by decide +kernel)
set_option maxRecDepth 20000 in
theorem nf_960 : (Jvm.Cond.exactly (Jvm.Term.string "RainWishesModel" (199 : Nat)) "java/lang/String") ∈ nfl := List.mem_of_getElem? (i := 960) (by decide +kernel)
set_option maxRecDepth 20000 in
theorem nf_961 : (Jvm.Cond.eq (Jvm.Term.field (Jvm.Term.string "RainWishesModel" (199 : Nat)) "java/lang/String" "coder" "B") (Jvm.Term.int (0 : Int32))) ∈ nfl := List.mem_of_getElem? (i := 961) (by decide +kernel)
set_option maxRecDepth 20000 in
theorem nf_962 : (Jvm.Cond.arrayOf (Jvm.Term.field (Jvm.Term.string "RainWishesModel" (199 : Nat)) "java/lang/String" "value" "[B") Jvm.ClassFile.FieldType.byte) ∈ nfl := List.mem_of_getElem? (i := 962) (by decide +kernel)
set_option maxRecDepth 20000 in
theorem nf_963 : (Jvm.Cond.eq (Jvm.Term.length (Jvm.Term.field (Jvm.Term.string "RainWishesModel" (199 : Nat)) "java/lang/String" "value" "[B")) (Jvm.Term.int (3 : Int32))) ∈ nfl := List.mem_of_getElem? (i := 963) (by decide +kernel)
set_option maxRecDepth 20000 in
theorem nf_964 : (Jvm.Cond.eq (Jvm.Term.elem (Jvm.Term.field (Jvm.Term.string "RainWishesModel" (199 : Nat)) "java/lang/String" "value" "[B") (Jvm.Term.int (0 : Int32))) (Jvm.Term.int (119 : Int32))) ∈ nfl := List.mem_of_getElem? (i := 964) (by decide +kernel)
set_option maxRecDepth 20000 in
theorem nf_965 : (Jvm.Cond.eq (Jvm.Term.elem (Jvm.Term.field (Jvm.Term.string "RainWishesModel" (199 : Nat)) "java/lang/String" "value" "[B") (Jvm.Term.int (1 : Int32))) (Jvm.Term.int (101 : Int32))) ∈ nfl := List.mem_of_getElem? (i := 965) (by decide +kernel)
set_option maxRecDepth 20000 in
theorem nf_966 : (Jvm.Cond.eq (Jvm.Term.elem (Jvm.Term.field (Jvm.Term.string "RainWishesModel" (199 : Nat)) "java/lang/String" "value" "[B") (Jvm.Term.int (2 : Int32))) (Jvm.Term.int (116 : Int32))) ∈ nfl := List.mem_of_getElem? (i := 966) (by decide +kernel)
set_option maxRecDepth 20000 in
theorem nf_968 : (Jvm.Cond.exactly (Jvm.Term.string "RainWishesModel" (205 : Nat)) "java/lang/String") ∈ nfl := List.mem_of_getElem? (i := 968) (by decide +kernel)
set_option maxRecDepth 20000 in
theorem nf_969 : (Jvm.Cond.eq (Jvm.Term.field (Jvm.Term.string "RainWishesModel" (205 : Nat)) "java/lang/String" "coder" "B") (Jvm.Term.int (0 : Int32))) ∈ nfl := List.mem_of_getElem? (i := 969) (by decide +kernel)
set_option maxRecDepth 20000 in
theorem nf_970 : (Jvm.Cond.arrayOf (Jvm.Term.field (Jvm.Term.string "RainWishesModel" (205 : Nat)) "java/lang/String" "value" "[B") Jvm.ClassFile.FieldType.byte) ∈ nfl := List.mem_of_getElem? (i := 970) (by decide +kernel)
set_option maxRecDepth 20000 in
theorem nf_971 : (Jvm.Cond.eq (Jvm.Term.length (Jvm.Term.field (Jvm.Term.string "RainWishesModel" (205 : Nat)) "java/lang/String" "value" "[B")) (Jvm.Term.int (2 : Int32))) ∈ nfl := List.mem_of_getElem? (i := 971) (by decide +kernel)
set_option maxRecDepth 20000 in
theorem nf_972 : (Jvm.Cond.eq (Jvm.Term.elem (Jvm.Term.field (Jvm.Term.string "RainWishesModel" (205 : Nat)) "java/lang/String" "value" "[B") (Jvm.Term.int (0 : Int32))) (Jvm.Term.int (111 : Int32))) ∈ nfl := List.mem_of_getElem? (i := 972) (by decide +kernel)
set_option maxRecDepth 20000 in
theorem nf_973 : (Jvm.Cond.eq (Jvm.Term.elem (Jvm.Term.field (Jvm.Term.string "RainWishesModel" (205 : Nat)) "java/lang/String" "value" "[B") (Jvm.Term.int (1 : Int32))) (Jvm.Term.int (102 : Int32))) ∈ nfl := List.mem_of_getElem? (i := 973) (by decide +kernel)
set_option maxRecDepth 20000 in
theorem nf_975 : (Jvm.Cond.exactly (Jvm.Term.string "RainWishesModel" (207 : Nat)) "java/lang/String") ∈ nfl := List.mem_of_getElem? (i := 975) (by decide +kernel)
set_option maxRecDepth 20000 in
theorem nf_976 : (Jvm.Cond.eq (Jvm.Term.field (Jvm.Term.string "RainWishesModel" (207 : Nat)) "java/lang/String" "coder" "B") (Jvm.Term.int (0 : Int32))) ∈ nfl := List.mem_of_getElem? (i := 976) (by decide +kernel)
set_option maxRecDepth 20000 in
theorem nf_977 : (Jvm.Cond.arrayOf (Jvm.Term.field (Jvm.Term.string "RainWishesModel" (207 : Nat)) "java/lang/String" "value" "[B") Jvm.ClassFile.FieldType.byte) ∈ nfl := List.mem_of_getElem? (i := 977) (by decide +kernel)
set_option maxRecDepth 20000 in
theorem nf_978 : (Jvm.Cond.eq (Jvm.Term.length (Jvm.Term.field (Jvm.Term.string "RainWishesModel" (207 : Nat)) "java/lang/String" "value" "[B")) (Jvm.Term.int (2 : Int32))) ∈ nfl := List.mem_of_getElem? (i := 978) (by decide +kernel)
set_option maxRecDepth 20000 in
theorem nf_979 : (Jvm.Cond.eq (Jvm.Term.elem (Jvm.Term.field (Jvm.Term.string "RainWishesModel" (207 : Nat)) "java/lang/String" "value" "[B") (Jvm.Term.int (0 : Int32))) (Jvm.Term.int (111 : Int32))) ∈ nfl := List.mem_of_getElem? (i := 979) (by decide +kernel)
set_option maxRecDepth 20000 in
theorem nf_980 : (Jvm.Cond.eq (Jvm.Term.elem (Jvm.Term.field (Jvm.Term.string "RainWishesModel" (207 : Nat)) "java/lang/String" "value" "[B") (Jvm.Term.int (1 : Int32))) (Jvm.Term.int (110 : Int32))) ∈ nfl := List.mem_of_getElem? (i := 980) (by decide +kernel)
set_option maxRecDepth 20000 in
theorem nf_982 : (Jvm.Cond.exactly (Jvm.Term.string "RainWishesModel" (209 : Nat)) "java/lang/String") ∈ nfl := List.mem_of_getElem? (i := 982) (by decide +kernel)
set_option maxRecDepth 20000 in
theorem nf_983 : (Jvm.Cond.eq (Jvm.Term.field (Jvm.Term.string "RainWishesModel" (209 : Nat)) "java/lang/String" "coder" "B") (Jvm.Term.int (0 : Int32))) ∈ nfl := List.mem_of_getElem? (i := 983) (by decide +kernel)
set_option maxRecDepth 20000 in
theorem nf_984 : (Jvm.Cond.arrayOf (Jvm.Term.field (Jvm.Term.string "RainWishesModel" (209 : Nat)) "java/lang/String" "value" "[B") Jvm.ClassFile.FieldType.byte) ∈ nfl := List.mem_of_getElem? (i := 984) (by decide +kernel)
set_option maxRecDepth 20000 in
theorem nf_985 : (Jvm.Cond.eq (Jvm.Term.length (Jvm.Term.field (Jvm.Term.string "RainWishesModel" (209 : Nat)) "java/lang/String" "value" "[B")) (Jvm.Term.int (3 : Int32))) ∈ nfl := List.mem_of_getElem? (i := 985) (by decide +kernel)
set_option maxRecDepth 20000 in
theorem nf_986 : (Jvm.Cond.eq (Jvm.Term.elem (Jvm.Term.field (Jvm.Term.string "RainWishesModel" (209 : Nat)) "java/lang/String" "value" "[B") (Jvm.Term.int (0 : Int32))) (Jvm.Term.int (97 : Int32))) ∈ nfl := List.mem_of_getElem? (i := 986) (by decide +kernel)
set_option maxRecDepth 20000 in
theorem nf_987 : (Jvm.Cond.eq (Jvm.Term.elem (Jvm.Term.field (Jvm.Term.string "RainWishesModel" (209 : Nat)) "java/lang/String" "value" "[B") (Jvm.Term.int (1 : Int32))) (Jvm.Term.int (108 : Int32))) ∈ nfl := List.mem_of_getElem? (i := 987) (by decide +kernel)
set_option maxRecDepth 20000 in
theorem nf_988 : (Jvm.Cond.eq (Jvm.Term.elem (Jvm.Term.field (Jvm.Term.string "RainWishesModel" (209 : Nat)) "java/lang/String" "value" "[B") (Jvm.Term.int (2 : Int32))) (Jvm.Term.int (108 : Int32))) ∈ nfl := List.mem_of_getElem? (i := 988) (by decide +kernel)
set_option maxRecDepth 20000 in
theorem nf_990 : (Jvm.Cond.exactly (Jvm.Term.string "RainWishesModel" (174 : Nat)) "java/lang/String") ∈ nfl := List.mem_of_getElem? (i := 990) (by decide +kernel)
set_option maxRecDepth 20000 in
theorem nf_991 : (Jvm.Cond.eq (Jvm.Term.field (Jvm.Term.string "RainWishesModel" (174 : Nat)) "java/lang/String" "coder" "B") (Jvm.Term.int (0 : Int32))) ∈ nfl := List.mem_of_getElem? (i := 991) (by decide +kernel)
set_option maxRecDepth 20000 in
theorem nf_992 : (Jvm.Cond.arrayOf (Jvm.Term.field (Jvm.Term.string "RainWishesModel" (174 : Nat)) "java/lang/String" "value" "[B") Jvm.ClassFile.FieldType.byte) ∈ nfl := List.mem_of_getElem? (i := 992) (by decide +kernel)
set_option maxRecDepth 20000 in
theorem nf_993 : (Jvm.Cond.eq (Jvm.Term.length (Jvm.Term.field (Jvm.Term.string "RainWishesModel" (174 : Nat)) "java/lang/String" "value" "[B")) (Jvm.Term.int (3 : Int32))) ∈ nfl := List.mem_of_getElem? (i := 993) (by decide +kernel)
set_option maxRecDepth 20000 in
theorem nf_994 : (Jvm.Cond.eq (Jvm.Term.elem (Jvm.Term.field (Jvm.Term.string "RainWishesModel" (174 : Nat)) "java/lang/String" "value" "[B") (Jvm.Term.int (0 : Int32))) (Jvm.Term.int (97 : Int32))) ∈ nfl := List.mem_of_getElem? (i := 994) (by decide +kernel)
set_option maxRecDepth 20000 in
theorem nf_995 : (Jvm.Cond.eq (Jvm.Term.elem (Jvm.Term.field (Jvm.Term.string "RainWishesModel" (174 : Nat)) "java/lang/String" "value" "[B") (Jvm.Term.int (1 : Int32))) (Jvm.Term.int (110 : Int32))) ∈ nfl := List.mem_of_getElem? (i := 995) (by decide +kernel)
set_option maxRecDepth 20000 in
theorem nf_996 : (Jvm.Cond.eq (Jvm.Term.elem (Jvm.Term.field (Jvm.Term.string "RainWishesModel" (174 : Nat)) "java/lang/String" "value" "[B") (Jvm.Term.int (2 : Int32))) (Jvm.Term.int (100 : Int32))) ∈ nfl := List.mem_of_getElem? (i := 996) (by decide +kernel)
set_option maxRecDepth 20000 in
theorem nf_998 : (Jvm.Cond.exactly (Jvm.Term.string "RainWishesModel" (166 : Nat)) "java/lang/String") ∈ nfl := List.mem_of_getElem? (i := 998) (by decide +kernel)
set_option maxRecDepth 20000 in
theorem nf_999 : (Jvm.Cond.eq (Jvm.Term.field (Jvm.Term.string "RainWishesModel" (166 : Nat)) "java/lang/String" "coder" "B") (Jvm.Term.int (0 : Int32))) ∈ nfl := List.mem_of_getElem? (i := 999) (by decide +kernel)
set_option maxRecDepth 20000 in
theorem nf_1000 : (Jvm.Cond.arrayOf (Jvm.Term.field (Jvm.Term.string "RainWishesModel" (166 : Nat)) "java/lang/String" "value" "[B") Jvm.ClassFile.FieldType.byte) ∈ nfl := List.mem_of_getElem? (i := 1000) (by decide +kernel)
set_option maxRecDepth 20000 in
theorem nf_1001 : (Jvm.Cond.eq (Jvm.Term.length (Jvm.Term.field (Jvm.Term.string "RainWishesModel" (166 : Nat)) "java/lang/String" "value" "[B")) (Jvm.Term.int (2 : Int32))) ∈ nfl := List.mem_of_getElem? (i := 1001) (by decide +kernel)
set_option maxRecDepth 20000 in
theorem nf_1002 : (Jvm.Cond.eq (Jvm.Term.elem (Jvm.Term.field (Jvm.Term.string "RainWishesModel" (166 : Nat)) "java/lang/String" "value" "[B") (Jvm.Term.int (0 : Int32))) (Jvm.Term.int (111 : Int32))) ∈ nfl := List.mem_of_getElem? (i := 1002) (by decide +kernel)
set_option maxRecDepth 20000 in
theorem nf_1003 : (Jvm.Cond.eq (Jvm.Term.elem (Jvm.Term.field (Jvm.Term.string "RainWishesModel" (166 : Nat)) "java/lang/String" "value" "[B") (Jvm.Term.int (1 : Int32))) (Jvm.Term.int (114 : Int32))) ∈ nfl := List.mem_of_getElem? (i := 1003) (by decide +kernel)
theorem st_0 {args : Array Value} {s : State} {A : Nat → Prop} (hs : ∀ c ∈ nfl, c.before args s = true) (hA : ∀ a : Nat, a < s.heap.size → ¬ A a) : ∃ q, StrOk ("RainWishes", 118, "not so many bytes on the tape", 0) args s A q :=
  str_of (byt := sb 0) (len := slen 0) (by decide +kernel) (hs _ nf_143) (hs _ nf_144) (hs _ nf_145) (hs _ nf_146) (fun j hj => by
    have hj : j < 29 := hj
    match j, hj with
    | 0, _ => exact (hs _ nf_147)
    | 1, _ => exact (hs _ nf_148)
    | 2, _ => exact (hs _ nf_149)
    | 3, _ => exact (hs _ nf_150)
    | 4, _ => exact (hs _ nf_151)
    | 5, _ => exact (hs _ nf_152)
    | 6, _ => exact (hs _ nf_153)
    | 7, _ => exact (hs _ nf_154)
    | 8, _ => exact (hs _ nf_155)
    | 9, _ => exact (hs _ nf_156)
    | 10, _ => exact (hs _ nf_157)
    | 11, _ => exact (hs _ nf_158)
    | 12, _ => exact (hs _ nf_159)
    | 13, _ => exact (hs _ nf_160)
    | 14, _ => exact (hs _ nf_161)
    | 15, _ => exact (hs _ nf_162)
    | 16, _ => exact (hs _ nf_163)
    | 17, _ => exact (hs _ nf_164)
    | 18, _ => exact (hs _ nf_165)
    | 19, _ => exact (hs _ nf_166)
    | 20, _ => exact (hs _ nf_167)
    | 21, _ => exact (hs _ nf_168)
    | 22, _ => exact (hs _ nf_169)
    | 23, _ => exact (hs _ nf_170)
    | 24, _ => exact (hs _ nf_171)
    | 25, _ => exact (hs _ nf_172)
    | 26, _ => exact (hs _ nf_173)
    | 27, _ => exact (hs _ nf_174)
    | 28, _ => exact (hs _ nf_175)
    | j + 29, hj => exact absurd hj (by omega)) hA
theorem st_1 {args : Array Value} {s : State} {A : Nat → Prop} (hs : ∀ c ∈ nfl, c.before args s = true) (hA : ∀ a : Nat, a < s.heap.size → ¬ A a) : ∃ q, StrOk ("RainWishes$Tokens", 33, ";:+-*()[]=<>", 1) args s A q :=
  str_of (byt := sb 1) (len := slen 1) (by decide +kernel) (hs _ nf_176) (hs _ nf_177) (hs _ nf_178) (hs _ nf_179) (fun j hj => by
    have hj : j < 12 := hj
    match j, hj with
    | 0, _ => exact (hs _ nf_180)
    | 1, _ => exact (hs _ nf_181)
    | 2, _ => exact (hs _ nf_182)
    | 3, _ => exact (hs _ nf_183)
    | 4, _ => exact (hs _ nf_184)
    | 5, _ => exact (hs _ nf_185)
    | 6, _ => exact (hs _ nf_186)
    | 7, _ => exact (hs _ nf_187)
    | 8, _ => exact (hs _ nf_188)
    | 9, _ => exact (hs _ nf_189)
    | 10, _ => exact (hs _ nf_190)
    | 11, _ => exact (hs _ nf_191)
    | j + 12, hj => exact absurd hj (by omega)) hA
theorem st_2 {args : Array Value} {s : State} {A : Nat → Prop} (hs : ∀ c ∈ nfl, c.before args s = true) (hA : ∀ a : Nat, a < s.heap.size → ¬ A a) : ∃ q, StrOk ("RainWishes$Parser", 87, "sky", 2) args s A q :=
  str_of (byt := sb 2) (len := slen 2) (by decide +kernel) (hs _ nf_192) (hs _ nf_193) (hs _ nf_194) (hs _ nf_195) (fun j hj => by
    have hj : j < 3 := hj
    match j, hj with
    | 0, _ => exact (hs _ nf_196)
    | 1, _ => exact (hs _ nf_197)
    | 2, _ => exact (hs _ nf_198)
    | j + 3, hj => exact absurd hj (by omega)) hA
theorem st_3 {args : Array Value} {s : State} {A : Nat → Prop} (hs : ∀ c ∈ nfl, c.before args s = true) (hA : ∀ a : Nat, a < s.heap.size → ¬ A a) : ∃ q, StrOk ("RainWishes$Parser", 113, ";", 3) args s A q :=
  str_of (byt := sb 3) (len := slen 3) (by decide +kernel) (hs _ nf_199) (hs _ nf_200) (hs _ nf_201) (hs _ nf_202) (fun j hj => by
    have hj : j < 1 := hj
    match j, hj with
    | 0, _ => exact (hs _ nf_203)
    | j + 1, hj => exact absurd hj (by omega)) hA
theorem st_4 {args : Array Value} {s : State} {A : Nat → Prop} (hs : ∀ c ∈ nfl, c.before args s = true) (hA : ∀ a : Nat, a < s.heap.size → ¬ A a) : ∃ q, StrOk ("RainWishes$Parser", 115, "wish", 4) args s A q :=
  str_of (byt := sb 4) (len := slen 4) (by decide +kernel) (hs _ nf_204) (hs _ nf_205) (hs _ nf_206) (hs _ nf_207) (fun j hj => by
    have hj : j < 4 := hj
    match j, hj with
    | 0, _ => exact (hs _ nf_208)
    | 1, _ => exact (hs _ nf_209)
    | 2, _ => exact (hs _ nf_210)
    | 3, _ => exact (hs _ nf_211)
    | j + 4, hj => exact absurd hj (by omega)) hA
theorem st_5 {args : Array Value} {s : State} {A : Nat → Prop} (hs : ∀ c ∈ nfl, c.before args s = true) (hA : ∀ a : Nat, a < s.heap.size → ¬ A a) : ∃ q, StrOk ("RainWishes$Parser", 131, "by", 5) args s A q :=
  str_of (byt := sb 5) (len := slen 5) (by decide +kernel) (hs _ nf_212) (hs _ nf_213) (hs _ nf_214) (hs _ nf_215) (fun j hj => by
    have hj : j < 2 := hj
    match j, hj with
    | 0, _ => exact (hs _ nf_216)
    | 1, _ => exact (hs _ nf_217)
    | j + 2, hj => exact absurd hj (by omega)) hA
theorem st_6 {args : Array Value} {s : State} {A : Nat → Prop} (hs : ∀ c ∈ nfl, c.before args s = true) (hA : ∀ a : Nat, a < s.heap.size → ¬ A a) : ∃ q, StrOk ("RainWishes$Parser", 138, "weight", 6) args s A q :=
  str_of (byt := sb 6) (len := slen 6) (by decide +kernel) (hs _ nf_218) (hs _ nf_219) (hs _ nf_220) (hs _ nf_221) (fun j hj => by
    have hj : j < 6 := hj
    match j, hj with
    | 0, _ => exact (hs _ nf_222)
    | 1, _ => exact (hs _ nf_223)
    | 2, _ => exact (hs _ nf_224)
    | 3, _ => exact (hs _ nf_225)
    | 4, _ => exact (hs _ nf_226)
    | 5, _ => exact (hs _ nf_227)
    | j + 6, hj => exact absurd hj (by omega)) hA
theorem st_7 {args : Array Value} {s : State} {A : Nat → Prop} (hs : ∀ c ∈ nfl, c.before args s = true) (hA : ∀ a : Nat, a < s.heap.size → ¬ A a) : ∃ q, StrOk ("RainWishes$Parser", 139, "must", 7) args s A q :=
  str_of (byt := sb 7) (len := slen 7) (by decide +kernel) (hs _ nf_228) (hs _ nf_229) (hs _ nf_230) (hs _ nf_231) (fun j hj => by
    have hj : j < 4 := hj
    match j, hj with
    | 0, _ => exact (hs _ nf_232)
    | 1, _ => exact (hs _ nf_233)
    | 2, _ => exact (hs _ nf_234)
    | 3, _ => exact (hs _ nf_235)
    | j + 4, hj => exact absurd hj (by omega)) hA
theorem st_8 {args : Array Value} {s : State} {A : Nat → Prop} (hs : ∀ c ∈ nfl, c.before args s = true) (hA : ∀ a : Nat, a < s.heap.size → ¬ A a) : ∃ q, StrOk ("RainWishes$Parser", 162, ":", 8) args s A q :=
  str_of (byt := sb 8) (len := slen 8) (by decide +kernel) (hs _ nf_236) (hs _ nf_237) (hs _ nf_238) (hs _ nf_239) (fun j hj => by
    have hj : j < 1 := hj
    match j, hj with
    | 0, _ => exact (hs _ nf_240)
    | j + 1, hj => exact absurd hj (by omega)) hA
theorem st_9 {args : Array Value} {s : State} {A : Nat → Prop} (hs : ∀ c ∈ nfl, c.before args s = true) (hA : ∀ a : Nat, a < s.heap.size → ¬ A a) : ∃ q, StrOk ("RainWishes$Parser", 120, "clouds", 9) args s A q :=
  str_of (byt := sb 9) (len := slen 9) (by decide +kernel) (hs _ nf_241) (hs _ nf_242) (hs _ nf_243) (hs _ nf_244) (fun j hj => by
    have hj : j < 6 := hj
    match j, hj with
    | 0, _ => exact (hs _ nf_245)
    | 1, _ => exact (hs _ nf_246)
    | 2, _ => exact (hs _ nf_247)
    | 3, _ => exact (hs _ nf_248)
    | 4, _ => exact (hs _ nf_249)
    | 5, _ => exact (hs _ nf_250)
    | j + 6, hj => exact absurd hj (by omega)) hA
theorem st_10 {args : Array Value} {s : State} {A : Nat → Prop} (hs : ∀ c ∈ nfl, c.before args s = true) (hA : ∀ a : Nat, a < s.heap.size → ¬ A a) : ∃ q, StrOk ("RainWishes$Parser", 122, "wind", 10) args s A q :=
  str_of (byt := sb 10) (len := slen 10) (by decide +kernel) (hs _ nf_251) (hs _ nf_252) (hs _ nf_253) (hs _ nf_254) (fun j hj => by
    have hj : j < 4 := hj
    match j, hj with
    | 0, _ => exact (hs _ nf_255)
    | 1, _ => exact (hs _ nf_256)
    | 2, _ => exact (hs _ nf_257)
    | 3, _ => exact (hs _ nf_258)
    | j + 4, hj => exact absurd hj (by omega)) hA
theorem st_11 {args : Array Value} {s : State} {A : Nat → Prop} (hs : ∀ c ∈ nfl, c.before args s = true) (hA : ∀ a : Nat, a < s.heap.size → ¬ A a) : ∃ q, StrOk ("RainWishes$Parser", 168, "not", 11) args s A q :=
  str_of (byt := sb 11) (len := slen 11) (by decide +kernel) (hs _ nf_259) (hs _ nf_260) (hs _ nf_261) (hs _ nf_262) (fun j hj => by
    have hj : j < 3 := hj
    match j, hj with
    | 0, _ => exact (hs _ nf_263)
    | 1, _ => exact (hs _ nf_264)
    | 2, _ => exact (hs _ nf_265)
    | j + 3, hj => exact absurd hj (by omega)) hA
theorem st_12 {args : Array Value} {s : State} {A : Nat → Prop} (hs : ∀ c ∈ nfl, c.before args s = true) (hA : ∀ a : Nat, a < s.heap.size → ¬ A a) : ∃ q, StrOk ("RainWishes$Parser", 173, "[", 12) args s A q :=
  str_of (byt := sb 12) (len := slen 12) (by decide +kernel) (hs _ nf_266) (hs _ nf_267) (hs _ nf_268) (hs _ nf_269) (fun j hj => by
    have hj : j < 1 := hj
    match j, hj with
    | 0, _ => exact (hs _ nf_270)
    | j + 1, hj => exact absurd hj (by omega)) hA
theorem st_13 {args : Array Value} {s : State} {A : Nat → Prop} (hs : ∀ c ∈ nfl, c.before args s = true) (hA : ∀ a : Nat, a < s.heap.size → ¬ A a) : ∃ q, StrOk ("RainWishes$Parser", 175, "(", 13) args s A q :=
  str_of (byt := sb 13) (len := slen 13) (by decide +kernel) (hs _ nf_271) (hs _ nf_272) (hs _ nf_273) (hs _ nf_274) (fun j hj => by
    have hj : j < 1 := hj
    match j, hj with
    | 0, _ => exact (hs _ nf_275)
    | j + 1, hj => exact absurd hj (by omega)) hA
theorem st_14 {args : Array Value} {s : State} {A : Nat → Prop} (hs : ∀ c ∈ nfl, c.before args s = true) (hA : ∀ a : Nat, a < s.heap.size → ¬ A a) : ∃ q, StrOk ("RainWishes$Parser", 187, "all", 14) args s A q :=
  str_of (byt := sb 14) (len := slen 14) (by decide +kernel) (hs _ nf_276) (hs _ nf_277) (hs _ nf_278) (hs _ nf_279) (fun j hj => by
    have hj : j < 3 := hj
    match j, hj with
    | 0, _ => exact (hs _ nf_280)
    | 1, _ => exact (hs _ nf_281)
    | 2, _ => exact (hs _ nf_282)
    | j + 3, hj => exact absurd hj (by omega)) hA
theorem st_15 {args : Array Value} {s : State} {A : Nat → Prop} (hs : ∀ c ∈ nfl, c.before args s = true) (hA : ∀ a : Nat, a < s.heap.size → ¬ A a) : ∃ q, StrOk ("RainWishes$Parser", 192, "wet", 15) args s A q :=
  str_of (byt := sb 15) (len := slen 15) (by decide +kernel) (hs _ nf_283) (hs _ nf_284) (hs _ nf_285) (hs _ nf_286) (fun j hj => by
    have hj : j < 3 := hj
    match j, hj with
    | 0, _ => exact (hs _ nf_287)
    | 1, _ => exact (hs _ nf_288)
    | 2, _ => exact (hs _ nf_289)
    | j + 3, hj => exact absurd hj (by omega)) hA
theorem st_16 {args : Array Value} {s : State} {A : Nat → Prop} (hs : ∀ c ∈ nfl, c.before args s = true) (hA : ∀ a : Nat, a < s.heap.size → ¬ A a) : ∃ q, StrOk ("RainWishes$Parser", 194, "on", 16) args s A q :=
  str_of (byt := sb 16) (len := slen 16) (by decide +kernel) (hs _ nf_290) (hs _ nf_291) (hs _ nf_292) (hs _ nf_293) (fun j hj => by
    have hj : j < 2 := hj
    match j, hj with
    | 0, _ => exact (hs _ nf_294)
    | 1, _ => exact (hs _ nf_295)
    | j + 2, hj => exact absurd hj (by omega)) hA
theorem st_17 {args : Array Value} {s : State} {A : Nat → Prop} (hs : ∀ c ∈ nfl, c.before args s = true) (hA : ∀ a : Nat, a < s.heap.size → ¬ A a) : ∃ q, StrOk ("RainWishes$Parser", 196, "of", 17) args s A q :=
  str_of (byt := sb 17) (len := slen 17) (by decide +kernel) (hs _ nf_296) (hs _ nf_297) (hs _ nf_298) (hs _ nf_299) (fun j hj => by
    have hj : j < 2 := hj
    match j, hj with
    | 0, _ => exact (hs _ nf_300)
    | 1, _ => exact (hs _ nf_301)
    | j + 2, hj => exact absurd hj (by omega)) hA
theorem st_18 {args : Array Value} {s : State} {A : Nat → Prop} (hs : ∀ c ∈ nfl, c.before args s = true) (hA : ∀ a : Nat, a < s.heap.size → ¬ A a) : ∃ q, StrOk ("RainWishes$Parser", 228, "+", 18) args s A q :=
  str_of (byt := sb 18) (len := slen 18) (by decide +kernel) (hs _ nf_302) (hs _ nf_303) (hs _ nf_304) (hs _ nf_305) (fun j hj => by
    have hj : j < 1 := hj
    match j, hj with
    | 0, _ => exact (hs _ nf_306)
    | j + 1, hj => exact absurd hj (by omega)) hA
theorem st_19 {args : Array Value} {s : State} {A : Nat → Prop} (hs : ∀ c ∈ nfl, c.before args s = true) (hA : ∀ a : Nat, a < s.heap.size → ¬ A a) : ∃ q, StrOk ("RainWishes$Parser", 230, "-", 19) args s A q :=
  str_of (byt := sb 19) (len := slen 19) (by decide +kernel) (hs _ nf_307) (hs _ nf_308) (hs _ nf_309) (hs _ nf_310) (fun j hj => by
    have hj : j < 1 := hj
    match j, hj with
    | 0, _ => exact (hs _ nf_311)
    | j + 1, hj => exact absurd hj (by omega)) hA
theorem st_20 {args : Array Value} {s : State} {A : Nat → Prop} (hs : ∀ c ∈ nfl, c.before args s = true) (hA : ∀ a : Nat, a < s.heap.size → ¬ A a) : ∃ q, StrOk ("RainWishes$Parser", 232, "*", 20) args s A q :=
  str_of (byt := sb 20) (len := slen 20) (by decide +kernel) (hs _ nf_312) (hs _ nf_313) (hs _ nf_314) (hs _ nf_315) (fun j hj => by
    have hj : j < 1 := hj
    match j, hj with
    | 0, _ => exact (hs _ nf_316)
    | j + 1, hj => exact absurd hj (by omega)) hA
theorem st_21 {args : Array Value} {s : State} {A : Nat → Prop} (hs : ∀ c ∈ nfl, c.before args s = true) (hA : ∀ a : Nat, a < s.heap.size → ¬ A a) : ∃ q, StrOk ("RainWishes$Parser", 211, ")", 21) args s A q :=
  str_of (byt := sb 21) (len := slen 21) (by decide +kernel) (hs _ nf_317) (hs _ nf_318) (hs _ nf_319) (hs _ nf_320) (fun j hj => by
    have hj : j < 1 := hj
    match j, hj with
    | 0, _ => exact (hs _ nf_321)
    | j + 1, hj => exact absurd hj (by omega)) hA
theorem st_22 {args : Array Value} {s : State} {A : Nat → Prop} (hs : ∀ c ∈ nfl, c.before args s = true) (hA : ∀ a : Nat, a < s.heap.size → ¬ A a) : ∃ q, StrOk ("RainWishes$Parser", 234, "=", 22) args s A q :=
  str_of (byt := sb 22) (len := slen 22) (by decide +kernel) (hs _ nf_322) (hs _ nf_323) (hs _ nf_324) (hs _ nf_325) (fun j hj => by
    have hj : j < 1 := hj
    match j, hj with
    | 0, _ => exact (hs _ nf_326)
    | j + 1, hj => exact absurd hj (by omega)) hA
theorem st_23 {args : Array Value} {s : State} {A : Nat → Prop} (hs : ∀ c ∈ nfl, c.before args s = true) (hA : ∀ a : Nat, a < s.heap.size → ¬ A a) : ∃ q, StrOk ("RainWishes$Parser", 236, "<", 23) args s A q :=
  str_of (byt := sb 23) (len := slen 23) (by decide +kernel) (hs _ nf_327) (hs _ nf_328) (hs _ nf_329) (hs _ nf_330) (fun j hj => by
    have hj : j < 1 := hj
    match j, hj with
    | 0, _ => exact (hs _ nf_331)
    | j + 1, hj => exact absurd hj (by omega)) hA
theorem st_24 {args : Array Value} {s : State} {A : Nat → Prop} (hs : ∀ c ∈ nfl, c.before args s = true) (hA : ∀ a : Nat, a < s.heap.size → ¬ A a) : ∃ q, StrOk ("RainWishes$Parser", 238, ">", 24) args s A q :=
  str_of (byt := sb 24) (len := slen 24) (by decide +kernel) (hs _ nf_332) (hs _ nf_333) (hs _ nf_334) (hs _ nf_335) (fun j hj => by
    have hj : j < 1 := hj
    match j, hj with
    | 0, _ => exact (hs _ nf_336)
    | j + 1, hj => exact absurd hj (by omega)) hA
theorem st_25 {args : Array Value} {s : State} {A : Nat → Prop} (hs : ∀ c ∈ nfl, c.before args s = true) (hA : ∀ a : Nat, a < s.heap.size → ¬ A a) : ∃ q, StrOk ("RainWishes$Parser", 219, "and", 25) args s A q :=
  str_of (byt := sb 25) (len := slen 25) (by decide +kernel) (hs _ nf_337) (hs _ nf_338) (hs _ nf_339) (hs _ nf_340) (fun j hj => by
    have hj : j < 3 := hj
    match j, hj with
    | 0, _ => exact (hs _ nf_341)
    | 1, _ => exact (hs _ nf_342)
    | 2, _ => exact (hs _ nf_343)
    | j + 3, hj => exact absurd hj (by omega)) hA
theorem st_26 {args : Array Value} {s : State} {A : Nat → Prop} (hs : ∀ c ∈ nfl, c.before args s = true) (hA : ∀ a : Nat, a < s.heap.size → ¬ A a) : ∃ q, StrOk ("RainWishes$Parser", 221, "or", 26) args s A q :=
  str_of (byt := sb 26) (len := slen 26) (by decide +kernel) (hs _ nf_344) (hs _ nf_345) (hs _ nf_346) (hs _ nf_347) (fun j hj => by
    have hj : j < 2 := hj
    match j, hj with
    | 0, _ => exact (hs _ nf_348)
    | 1, _ => exact (hs _ nf_349)
    | j + 2, hj => exact absurd hj (by omega)) hA
theorem st_27 {args : Array Value} {s : State} {A : Nat → Prop} (hs : ∀ c ∈ nfl, c.before args s = true) (hA : ∀ a : Nat, a < s.heap.size → ¬ A a) : ∃ q, StrOk ("RainWishes$Parser", 223, "]", 27) args s A q :=
  str_of (byt := sb 27) (len := slen 27) (by decide +kernel) (hs _ nf_350) (hs _ nf_351) (hs _ nf_352) (hs _ nf_353) (fun j hj => by
    have hj : j < 1 := hj
    match j, hj with
    | 0, _ => exact (hs _ nf_354)
    | j + 1, hj => exact absurd hj (by omega)) hA
theorem st_28 {args : Array Value} {s : State} {A : Nat → Prop} (hs : ∀ c ∈ nfl, c.before args s = true) (hA : ∀ a : Nat, a < s.heap.size → ¬ A a) : ∃ q, StrOk ("RainWishes", 203, "no such wish", 28) args s A q :=
  str_of (byt := sb 28) (len := slen 28) (by decide +kernel) (hs _ nf_355) (hs _ nf_356) (hs _ nf_357) (hs _ nf_358) (fun j hj => by
    have hj : j < 12 := hj
    match j, hj with
    | 0, _ => exact (hs _ nf_359)
    | 1, _ => exact (hs _ nf_360)
    | 2, _ => exact (hs _ nf_361)
    | 3, _ => exact (hs _ nf_362)
    | 4, _ => exact (hs _ nf_363)
    | 5, _ => exact (hs _ nf_364)
    | 6, _ => exact (hs _ nf_365)
    | 7, _ => exact (hs _ nf_366)
    | 8, _ => exact (hs _ nf_367)
    | 9, _ => exact (hs _ nf_368)
    | 10, _ => exact (hs _ nf_369)
    | 11, _ => exact (hs _ nf_370)
    | j + 12, hj => exact absurd hj (by omega)) hA
theorem st_29 {args : Array Value} {s : State} {A : Nat → Prop} (hs : ∀ c ∈ nfl, c.before args s = true) (hA : ∀ a : Nat, a < s.heap.size → ¬ A a) : ∃ q, StrOk ("RainWishes", 175, "another what", 29) args s A q :=
  str_of (byt := sb 29) (len := slen 29) (by decide +kernel) (hs _ nf_371) (hs _ nf_372) (hs _ nf_373) (hs _ nf_374) (fun j hj => by
    have hj : j < 12 := hj
    match j, hj with
    | 0, _ => exact (hs _ nf_375)
    | 1, _ => exact (hs _ nf_376)
    | 2, _ => exact (hs _ nf_377)
    | 3, _ => exact (hs _ nf_378)
    | 4, _ => exact (hs _ nf_379)
    | 5, _ => exact (hs _ nf_380)
    | 6, _ => exact (hs _ nf_381)
    | 7, _ => exact (hs _ nf_382)
    | 8, _ => exact (hs _ nf_383)
    | 9, _ => exact (hs _ nf_384)
    | 10, _ => exact (hs _ nf_385)
    | 11, _ => exact (hs _ nf_386)
    | j + 12, hj => exact absurd hj (by omega)) hA
theorem st_30 {args : Array Value} {s : State} {A : Nat → Prop} (hs : ∀ c ∈ nfl, c.before args s = true) (hA : ∀ a : Nat, a < s.heap.size → ¬ A a) : ∃ q, StrOk ("RainWishes", 211, "others than cells", 30) args s A q :=
  str_of (byt := sb 30) (len := slen 30) (by decide +kernel) (hs _ nf_387) (hs _ nf_388) (hs _ nf_389) (hs _ nf_390) (fun j hj => by
    have hj : j < 17 := hj
    match j, hj with
    | 0, _ => exact (hs _ nf_391)
    | 1, _ => exact (hs _ nf_392)
    | 2, _ => exact (hs _ nf_393)
    | 3, _ => exact (hs _ nf_394)
    | 4, _ => exact (hs _ nf_395)
    | 5, _ => exact (hs _ nf_396)
    | 6, _ => exact (hs _ nf_397)
    | 7, _ => exact (hs _ nf_398)
    | 8, _ => exact (hs _ nf_399)
    | 9, _ => exact (hs _ nf_400)
    | 10, _ => exact (hs _ nf_401)
    | 11, _ => exact (hs _ nf_402)
    | 12, _ => exact (hs _ nf_403)
    | 13, _ => exact (hs _ nf_404)
    | 14, _ => exact (hs _ nf_405)
    | 15, _ => exact (hs _ nf_406)
    | 16, _ => exact (hs _ nf_407)
    | j + 17, hj => exact absurd hj (by omega)) hA
theorem st_31 {args : Array Value} {s : State} {A : Nat → Prop} (hs : ∀ c ∈ nfl, c.before args s = true) (hA : ∀ a : Nat, a < s.heap.size → ¬ A a) : ∃ q, StrOk ("RainWishes", 213, "others than open wishes", 31) args s A q :=
  str_of (byt := sb 31) (len := slen 31) (by decide +kernel) (hs _ nf_408) (hs _ nf_409) (hs _ nf_410) (hs _ nf_411) (fun j hj => by
    have hj : j < 23 := hj
    match j, hj with
    | 0, _ => exact (hs _ nf_412)
    | 1, _ => exact (hs _ nf_413)
    | 2, _ => exact (hs _ nf_414)
    | 3, _ => exact (hs _ nf_415)
    | 4, _ => exact (hs _ nf_416)
    | 5, _ => exact (hs _ nf_417)
    | 6, _ => exact (hs _ nf_418)
    | 7, _ => exact (hs _ nf_419)
    | 8, _ => exact (hs _ nf_420)
    | 9, _ => exact (hs _ nf_421)
    | 10, _ => exact (hs _ nf_422)
    | 11, _ => exact (hs _ nf_423)
    | 12, _ => exact (hs _ nf_424)
    | 13, _ => exact (hs _ nf_425)
    | 14, _ => exact (hs _ nf_426)
    | 15, _ => exact (hs _ nf_427)
    | 16, _ => exact (hs _ nf_428)
    | 17, _ => exact (hs _ nf_429)
    | 18, _ => exact (hs _ nf_430)
    | 19, _ => exact (hs _ nf_431)
    | 20, _ => exact (hs _ nf_432)
    | 21, _ => exact (hs _ nf_433)
    | 22, _ => exact (hs _ nf_434)
    | j + 23, hj => exact absurd hj (by omega)) hA
theorem st_32 {args : Array Value} {s : State} {A : Nat → Prop} (hs : ∀ c ∈ nfl, c.before args s = true) (hA : ∀ a : Nat, a < s.heap.size → ¬ A a) : ∃ q, StrOk ("RainWishes", 206, "the wish is not open", 32) args s A q :=
  str_of (byt := sb 32) (len := slen 32) (by decide +kernel) (hs _ nf_435) (hs _ nf_436) (hs _ nf_437) (hs _ nf_438) (fun j hj => by
    have hj : j < 20 := hj
    match j, hj with
    | 0, _ => exact (hs _ nf_439)
    | 1, _ => exact (hs _ nf_440)
    | 2, _ => exact (hs _ nf_441)
    | 3, _ => exact (hs _ nf_442)
    | 4, _ => exact (hs _ nf_443)
    | 5, _ => exact (hs _ nf_444)
    | 6, _ => exact (hs _ nf_445)
    | 7, _ => exact (hs _ nf_446)
    | 8, _ => exact (hs _ nf_447)
    | 9, _ => exact (hs _ nf_448)
    | 10, _ => exact (hs _ nf_449)
    | 11, _ => exact (hs _ nf_450)
    | 12, _ => exact (hs _ nf_451)
    | 13, _ => exact (hs _ nf_452)
    | 14, _ => exact (hs _ nf_453)
    | 15, _ => exact (hs _ nf_454)
    | 16, _ => exact (hs _ nf_455)
    | 17, _ => exact (hs _ nf_456)
    | 18, _ => exact (hs _ nf_457)
    | 19, _ => exact (hs _ nf_458)
    | j + 20, hj => exact absurd hj (by omega)) hA
theorem st_33 {args : Array Value} {s : State} {A : Nat → Prop} (hs : ∀ c ∈ nfl, c.before args s = true) (hA : ∀ a : Nat, a < s.heap.size → ¬ A a) : ∃ q, StrOk ("RainWishes", 275, "more than four cells", 33) args s A q :=
  str_of (byt := sb 33) (len := slen 33) (by decide +kernel) (hs _ nf_459) (hs _ nf_460) (hs _ nf_461) (hs _ nf_462) (fun j hj => by
    have hj : j < 20 := hj
    match j, hj with
    | 0, _ => exact (hs _ nf_463)
    | 1, _ => exact (hs _ nf_464)
    | 2, _ => exact (hs _ nf_465)
    | 3, _ => exact (hs _ nf_466)
    | 4, _ => exact (hs _ nf_467)
    | 5, _ => exact (hs _ nf_468)
    | 6, _ => exact (hs _ nf_469)
    | 7, _ => exact (hs _ nf_470)
    | 8, _ => exact (hs _ nf_471)
    | 9, _ => exact (hs _ nf_472)
    | 10, _ => exact (hs _ nf_473)
    | 11, _ => exact (hs _ nf_474)
    | 12, _ => exact (hs _ nf_475)
    | 13, _ => exact (hs _ nf_476)
    | 14, _ => exact (hs _ nf_477)
    | 15, _ => exact (hs _ nf_478)
    | 16, _ => exact (hs _ nf_479)
    | 17, _ => exact (hs _ nf_480)
    | 18, _ => exact (hs _ nf_481)
    | 19, _ => exact (hs _ nf_482)
    | j + 20, hj => exact absurd hj (by omega)) hA
theorem st_34 {args : Array Value} {s : State} {A : Nat → Prop} (hs : ∀ c ∈ nfl, c.before args s = true) (hA : ∀ a : Nat, a < s.heap.size → ¬ A a) : ∃ q, StrOk ("RainWishes", 219, "not hundredths", 34) args s A q :=
  str_of (byt := sb 34) (len := slen 34) (by decide +kernel) (hs _ nf_483) (hs _ nf_484) (hs _ nf_485) (hs _ nf_486) (fun j hj => by
    have hj : j < 14 := hj
    match j, hj with
    | 0, _ => exact (hs _ nf_487)
    | 1, _ => exact (hs _ nf_488)
    | 2, _ => exact (hs _ nf_489)
    | 3, _ => exact (hs _ nf_490)
    | 4, _ => exact (hs _ nf_491)
    | 5, _ => exact (hs _ nf_492)
    | 6, _ => exact (hs _ nf_493)
    | 7, _ => exact (hs _ nf_494)
    | 8, _ => exact (hs _ nf_495)
    | 9, _ => exact (hs _ nf_496)
    | 10, _ => exact (hs _ nf_497)
    | 11, _ => exact (hs _ nf_498)
    | 12, _ => exact (hs _ nf_499)
    | 13, _ => exact (hs _ nf_500)
    | j + 14, hj => exact absurd hj (by omega)) hA
theorem st_35 {args : Array Value} {s : State} {A : Nat → Prop} (hs : ∀ c ∈ nfl, c.before args s = true) (hA : ∀ a : Nat, a < s.heap.size → ¬ A a) : ∃ q, StrOk ("RainWishes", 217, "no such rule", 35) args s A q :=
  str_of (byt := sb 35) (len := slen 35) (by decide +kernel) (hs _ nf_501) (hs _ nf_502) (hs _ nf_503) (hs _ nf_504) (fun j hj => by
    have hj : j < 12 := hj
    match j, hj with
    | 0, _ => exact (hs _ nf_505)
    | 1, _ => exact (hs _ nf_506)
    | 2, _ => exact (hs _ nf_507)
    | 3, _ => exact (hs _ nf_508)
    | 4, _ => exact (hs _ nf_509)
    | 5, _ => exact (hs _ nf_510)
    | 6, _ => exact (hs _ nf_511)
    | 7, _ => exact (hs _ nf_512)
    | 8, _ => exact (hs _ nf_513)
    | 9, _ => exact (hs _ nf_514)
    | 10, _ => exact (hs _ nf_515)
    | 11, _ => exact (hs _ nf_516)
    | j + 12, hj => exact absurd hj (by omega)) hA
theorem st_36 {args : Array Value} {s : State} {A : Nat → Prop} (hs : ∀ c ∈ nfl, c.before args s = true) (hA : ∀ a : Nat, a < s.heap.size → ¬ A a) : ∃ q, StrOk ("RainWishes", 215, "no such person", 36) args s A q :=
  str_of (byt := sb 36) (len := slen 36) (by decide +kernel) (hs _ nf_517) (hs _ nf_518) (hs _ nf_519) (hs _ nf_520) (fun j hj => by
    have hj : j < 14 := hj
    match j, hj with
    | 0, _ => exact (hs _ nf_521)
    | 1, _ => exact (hs _ nf_522)
    | 2, _ => exact (hs _ nf_523)
    | 3, _ => exact (hs _ nf_524)
    | 4, _ => exact (hs _ nf_525)
    | 5, _ => exact (hs _ nf_526)
    | 6, _ => exact (hs _ nf_527)
    | 7, _ => exact (hs _ nf_528)
    | 8, _ => exact (hs _ nf_529)
    | 9, _ => exact (hs _ nf_530)
    | 10, _ => exact (hs _ nf_531)
    | 11, _ => exact (hs _ nf_532)
    | 12, _ => exact (hs _ nf_533)
    | 13, _ => exact (hs _ nf_534)
    | j + 14, hj => exact absurd hj (by omega)) hA
theorem st_37 {args : Array Value} {s : State} {A : Nat → Prop} (hs : ∀ c ∈ nfl, c.before args s = true) (hA : ∀ a : Nat, a < s.heap.size → ¬ A a) : ∃ q, StrOk ("RainWishes", 221, "no such tray", 37) args s A q :=
  str_of (byt := sb 37) (len := slen 37) (by decide +kernel) (hs _ nf_535) (hs _ nf_536) (hs _ nf_537) (hs _ nf_538) (fun j hj => by
    have hj : j < 12 := hj
    match j, hj with
    | 0, _ => exact (hs _ nf_539)
    | 1, _ => exact (hs _ nf_540)
    | 2, _ => exact (hs _ nf_541)
    | 3, _ => exact (hs _ nf_542)
    | 4, _ => exact (hs _ nf_543)
    | 5, _ => exact (hs _ nf_544)
    | 6, _ => exact (hs _ nf_545)
    | 7, _ => exact (hs _ nf_546)
    | 8, _ => exact (hs _ nf_547)
    | 9, _ => exact (hs _ nf_548)
    | 10, _ => exact (hs _ nf_549)
    | 11, _ => exact (hs _ nf_550)
    | j + 12, hj => exact absurd hj (by omega)) hA
theorem st_38 {args : Array Value} {s : State} {A : Nat → Prop} (hs : ∀ c ∈ nfl, c.before args s = true) (hA : ∀ a : Nat, a < s.heap.size → ¬ A a) : ∃ q, StrOk ("RainWishes", 228, "the tray is missing", 38) args s A q :=
  str_of (byt := sb 38) (len := slen 38) (by decide +kernel) (hs _ nf_551) (hs _ nf_552) (hs _ nf_553) (hs _ nf_554) (fun j hj => by
    have hj : j < 19 := hj
    match j, hj with
    | 0, _ => exact (hs _ nf_555)
    | 1, _ => exact (hs _ nf_556)
    | 2, _ => exact (hs _ nf_557)
    | 3, _ => exact (hs _ nf_558)
    | 4, _ => exact (hs _ nf_559)
    | 5, _ => exact (hs _ nf_560)
    | 6, _ => exact (hs _ nf_561)
    | 7, _ => exact (hs _ nf_562)
    | 8, _ => exact (hs _ nf_563)
    | 9, _ => exact (hs _ nf_564)
    | 10, _ => exact (hs _ nf_565)
    | 11, _ => exact (hs _ nf_566)
    | 12, _ => exact (hs _ nf_567)
    | 13, _ => exact (hs _ nf_568)
    | 14, _ => exact (hs _ nf_569)
    | 15, _ => exact (hs _ nf_570)
    | 16, _ => exact (hs _ nf_571)
    | 17, _ => exact (hs _ nf_572)
    | 18, _ => exact (hs _ nf_573)
    | j + 19, hj => exact absurd hj (by omega)) hA
theorem st_39 {args : Array Value} {s : State} {A : Nat → Prop} (hs : ∀ c ∈ nfl, c.before args s = true) (hA : ∀ a : Nat, a < s.heap.size → ¬ A a) : ∃ q, StrOk ("RainWishes", 315, "no parishes", 39) args s A q :=
  str_of (byt := sb 39) (len := slen 39) (by decide +kernel) (hs _ nf_574) (hs _ nf_575) (hs _ nf_576) (hs _ nf_577) (fun j hj => by
    have hj : j < 11 := hj
    match j, hj with
    | 0, _ => exact (hs _ nf_578)
    | 1, _ => exact (hs _ nf_579)
    | 2, _ => exact (hs _ nf_580)
    | 3, _ => exact (hs _ nf_581)
    | 4, _ => exact (hs _ nf_582)
    | 5, _ => exact (hs _ nf_583)
    | 6, _ => exact (hs _ nf_584)
    | 7, _ => exact (hs _ nf_585)
    | 8, _ => exact (hs _ nf_586)
    | 9, _ => exact (hs _ nf_587)
    | 10, _ => exact (hs _ nf_588)
    | j + 11, hj => exact absurd hj (by omega)) hA
theorem st_40 {args : Array Value} {s : State} {A : Nat → Prop} (hs : ∀ c ∈ nfl, c.before args s = true) (hA : ∀ a : Nat, a < s.heap.size → ¬ A a) : ∃ q, StrOk ("RainWishes", 321, "numbers that are no weathers", 40) args s A q :=
  str_of (byt := sb 40) (len := slen 40) (by decide +kernel) (hs _ nf_589) (hs _ nf_590) (hs _ nf_591) (hs _ nf_592) (fun j hj => by
    have hj : j < 28 := hj
    match j, hj with
    | 0, _ => exact (hs _ nf_593)
    | 1, _ => exact (hs _ nf_594)
    | 2, _ => exact (hs _ nf_595)
    | 3, _ => exact (hs _ nf_596)
    | 4, _ => exact (hs _ nf_597)
    | 5, _ => exact (hs _ nf_598)
    | 6, _ => exact (hs _ nf_599)
    | 7, _ => exact (hs _ nf_600)
    | 8, _ => exact (hs _ nf_601)
    | 9, _ => exact (hs _ nf_602)
    | 10, _ => exact (hs _ nf_603)
    | 11, _ => exact (hs _ nf_604)
    | 12, _ => exact (hs _ nf_605)
    | 13, _ => exact (hs _ nf_606)
    | 14, _ => exact (hs _ nf_607)
    | 15, _ => exact (hs _ nf_608)
    | 16, _ => exact (hs _ nf_609)
    | 17, _ => exact (hs _ nf_610)
    | 18, _ => exact (hs _ nf_611)
    | 19, _ => exact (hs _ nf_612)
    | 20, _ => exact (hs _ nf_613)
    | 21, _ => exact (hs _ nf_614)
    | 22, _ => exact (hs _ nf_615)
    | 23, _ => exact (hs _ nf_616)
    | 24, _ => exact (hs _ nf_617)
    | 25, _ => exact (hs _ nf_618)
    | 26, _ => exact (hs _ nf_619)
    | 27, _ => exact (hs _ nf_620)
    | j + 28, hj => exact absurd hj (by omega)) hA
theorem st_41 {args : Array Value} {s : State} {A : Nat → Prop} (hs : ∀ c ∈ nfl, c.before args s = true) (hA : ∀ a : Nat, a < s.heap.size → ¬ A a) : ∃ q, StrOk ("RainWishes", 336, "numbers that say nothing", 41) args s A q :=
  str_of (byt := sb 41) (len := slen 41) (by decide +kernel) (hs _ nf_621) (hs _ nf_622) (hs _ nf_623) (hs _ nf_624) (fun j hj => by
    have hj : j < 24 := hj
    match j, hj with
    | 0, _ => exact (hs _ nf_625)
    | 1, _ => exact (hs _ nf_626)
    | 2, _ => exact (hs _ nf_627)
    | 3, _ => exact (hs _ nf_628)
    | 4, _ => exact (hs _ nf_629)
    | 5, _ => exact (hs _ nf_630)
    | 6, _ => exact (hs _ nf_631)
    | 7, _ => exact (hs _ nf_632)
    | 8, _ => exact (hs _ nf_633)
    | 9, _ => exact (hs _ nf_634)
    | 10, _ => exact (hs _ nf_635)
    | 11, _ => exact (hs _ nf_636)
    | 12, _ => exact (hs _ nf_637)
    | 13, _ => exact (hs _ nf_638)
    | 14, _ => exact (hs _ nf_639)
    | 15, _ => exact (hs _ nf_640)
    | 16, _ => exact (hs _ nf_641)
    | 17, _ => exact (hs _ nf_642)
    | 18, _ => exact (hs _ nf_643)
    | 19, _ => exact (hs _ nf_644)
    | 20, _ => exact (hs _ nf_645)
    | 21, _ => exact (hs _ nf_646)
    | 22, _ => exact (hs _ nf_647)
    | 23, _ => exact (hs _ nf_648)
    | j + 24, hj => exact absurd hj (by omega)) hA
theorem st_42 {args : Array Value} {s : State} {A : Nat → Prop} (hs : ∀ c ∈ nfl, c.before args s = true) (hA : ∀ a : Nat, a < s.heap.size → ¬ A a) : ∃ q, StrOk ("RainWishes", 361, "not so many thanks", 42) args s A q :=
  str_of (byt := sb 42) (len := slen 42) (by decide +kernel) (hs _ nf_649) (hs _ nf_650) (hs _ nf_651) (hs _ nf_652) (fun j hj => by
    have hj : j < 18 := hj
    match j, hj with
    | 0, _ => exact (hs _ nf_653)
    | 1, _ => exact (hs _ nf_654)
    | 2, _ => exact (hs _ nf_655)
    | 3, _ => exact (hs _ nf_656)
    | 4, _ => exact (hs _ nf_657)
    | 5, _ => exact (hs _ nf_658)
    | 6, _ => exact (hs _ nf_659)
    | 7, _ => exact (hs _ nf_660)
    | 8, _ => exact (hs _ nf_661)
    | 9, _ => exact (hs _ nf_662)
    | 10, _ => exact (hs _ nf_663)
    | 11, _ => exact (hs _ nf_664)
    | 12, _ => exact (hs _ nf_665)
    | 13, _ => exact (hs _ nf_666)
    | 14, _ => exact (hs _ nf_667)
    | 15, _ => exact (hs _ nf_668)
    | 16, _ => exact (hs _ nf_669)
    | 17, _ => exact (hs _ nf_670)
    | j + 18, hj => exact absurd hj (by omega)) hA
theorem st_43 {args : Array Value} {s : State} {A : Nat → Prop} (hs : ∀ c ∈ nfl, c.before args s = true) (hA : ∀ a : Nat, a < s.heap.size → ¬ A a) : ∃ q, StrOk ("RainWishes", 366, "the wish is open", 43) args s A q :=
  str_of (byt := sb 43) (len := slen 43) (by decide +kernel) (hs _ nf_671) (hs _ nf_672) (hs _ nf_673) (hs _ nf_674) (fun j hj => by
    have hj : j < 16 := hj
    match j, hj with
    | 0, _ => exact (hs _ nf_675)
    | 1, _ => exact (hs _ nf_676)
    | 2, _ => exact (hs _ nf_677)
    | 3, _ => exact (hs _ nf_678)
    | 4, _ => exact (hs _ nf_679)
    | 5, _ => exact (hs _ nf_680)
    | 6, _ => exact (hs _ nf_681)
    | 7, _ => exact (hs _ nf_682)
    | 8, _ => exact (hs _ nf_683)
    | 9, _ => exact (hs _ nf_684)
    | 10, _ => exact (hs _ nf_685)
    | 11, _ => exact (hs _ nf_686)
    | 12, _ => exact (hs _ nf_687)
    | 13, _ => exact (hs _ nf_688)
    | 14, _ => exact (hs _ nf_689)
    | 15, _ => exact (hs _ nf_690)
    | j + 16, hj => exact absurd hj (by omega)) hA
theorem st_44 {args : Array Value} {s : State} {A : Nat → Prop} (hs : ∀ c ∈ nfl, c.before args s = true) (hA : ∀ a : Nat, a < s.heap.size → ¬ A a) : ∃ q, StrOk ("RainWishes", 371, "not so many deeds", 44) args s A q :=
  str_of (byt := sb 44) (len := slen 44) (by decide +kernel) (hs _ nf_691) (hs _ nf_692) (hs _ nf_693) (hs _ nf_694) (fun j hj => by
    have hj : j < 17 := hj
    match j, hj with
    | 0, _ => exact (hs _ nf_695)
    | 1, _ => exact (hs _ nf_696)
    | 2, _ => exact (hs _ nf_697)
    | 3, _ => exact (hs _ nf_698)
    | 4, _ => exact (hs _ nf_699)
    | 5, _ => exact (hs _ nf_700)
    | 6, _ => exact (hs _ nf_701)
    | 7, _ => exact (hs _ nf_702)
    | 8, _ => exact (hs _ nf_703)
    | 9, _ => exact (hs _ nf_704)
    | 10, _ => exact (hs _ nf_705)
    | 11, _ => exact (hs _ nf_706)
    | 12, _ => exact (hs _ nf_707)
    | 13, _ => exact (hs _ nf_708)
    | 14, _ => exact (hs _ nf_709)
    | 15, _ => exact (hs _ nf_710)
    | 16, _ => exact (hs _ nf_711)
    | j + 17, hj => exact absurd hj (by omega)) hA
theorem st_45 {args : Array Value} {s : State} {A : Nat → Prop} (hs : ∀ c ∈ nfl, c.before args s = true) (hA : ∀ a : Nat, a < s.heap.size → ¬ A a) : ∃ q, StrOk ("RainWishes", 380, "not so many times", 45) args s A q :=
  str_of (byt := sb 45) (len := slen 45) (by decide +kernel) (hs _ nf_712) (hs _ nf_713) (hs _ nf_714) (hs _ nf_715) (fun j hj => by
    have hj : j < 17 := hj
    match j, hj with
    | 0, _ => exact (hs _ nf_716)
    | 1, _ => exact (hs _ nf_717)
    | 2, _ => exact (hs _ nf_718)
    | 3, _ => exact (hs _ nf_719)
    | 4, _ => exact (hs _ nf_720)
    | 5, _ => exact (hs _ nf_721)
    | 6, _ => exact (hs _ nf_722)
    | 7, _ => exact (hs _ nf_723)
    | 8, _ => exact (hs _ nf_724)
    | 9, _ => exact (hs _ nf_725)
    | 10, _ => exact (hs _ nf_726)
    | 11, _ => exact (hs _ nf_727)
    | 12, _ => exact (hs _ nf_728)
    | 13, _ => exact (hs _ nf_729)
    | 14, _ => exact (hs _ nf_730)
    | 15, _ => exact (hs _ nf_731)
    | 16, _ => exact (hs _ nf_732)
    | j + 17, hj => exact absurd hj (by omega)) hA
theorem st_46 {args : Array Value} {s : State} {A : Nat → Prop} (hs : ∀ c ∈ nfl, c.before args s = true) (hA : ∀ a : Nat, a < s.heap.size → ¬ A a) : ∃ q, StrOk ("RainWishes", 400, "not so many nights or clouds", 46) args s A q :=
  str_of (byt := sb 46) (len := slen 46) (by decide +kernel) (hs _ nf_733) (hs _ nf_734) (hs _ nf_735) (hs _ nf_736) (fun j hj => by
    have hj : j < 28 := hj
    match j, hj with
    | 0, _ => exact (hs _ nf_737)
    | 1, _ => exact (hs _ nf_738)
    | 2, _ => exact (hs _ nf_739)
    | 3, _ => exact (hs _ nf_740)
    | 4, _ => exact (hs _ nf_741)
    | 5, _ => exact (hs _ nf_742)
    | 6, _ => exact (hs _ nf_743)
    | 7, _ => exact (hs _ nf_744)
    | 8, _ => exact (hs _ nf_745)
    | 9, _ => exact (hs _ nf_746)
    | 10, _ => exact (hs _ nf_747)
    | 11, _ => exact (hs _ nf_748)
    | 12, _ => exact (hs _ nf_749)
    | 13, _ => exact (hs _ nf_750)
    | 14, _ => exact (hs _ nf_751)
    | 15, _ => exact (hs _ nf_752)
    | 16, _ => exact (hs _ nf_753)
    | 17, _ => exact (hs _ nf_754)
    | 18, _ => exact (hs _ nf_755)
    | 19, _ => exact (hs _ nf_756)
    | 20, _ => exact (hs _ nf_757)
    | 21, _ => exact (hs _ nf_758)
    | 22, _ => exact (hs _ nf_759)
    | 23, _ => exact (hs _ nf_760)
    | 24, _ => exact (hs _ nf_761)
    | 25, _ => exact (hs _ nf_762)
    | 26, _ => exact (hs _ nf_763)
    | 27, _ => exact (hs _ nf_764)
    | j + 28, hj => exact absurd hj (by omega)) hA
theorem st_47 {args : Array Value} {s : State} {A : Nat → Prop} (hs : ∀ c ∈ nfl, c.before args s = true) (hA : ∀ a : Nat, a < s.heap.size → ¬ A a) : ∃ q, StrOk ("RainWishes", 403, "numbers that are no weights", 47) args s A q :=
  str_of (byt := sb 47) (len := slen 47) (by decide +kernel) (hs _ nf_765) (hs _ nf_766) (hs _ nf_767) (hs _ nf_768) (fun j hj => by
    have hj : j < 27 := hj
    match j, hj with
    | 0, _ => exact (hs _ nf_769)
    | 1, _ => exact (hs _ nf_770)
    | 2, _ => exact (hs _ nf_771)
    | 3, _ => exact (hs _ nf_772)
    | 4, _ => exact (hs _ nf_773)
    | 5, _ => exact (hs _ nf_774)
    | 6, _ => exact (hs _ nf_775)
    | 7, _ => exact (hs _ nf_776)
    | 8, _ => exact (hs _ nf_777)
    | 9, _ => exact (hs _ nf_778)
    | 10, _ => exact (hs _ nf_779)
    | 11, _ => exact (hs _ nf_780)
    | 12, _ => exact (hs _ nf_781)
    | 13, _ => exact (hs _ nf_782)
    | 14, _ => exact (hs _ nf_783)
    | 15, _ => exact (hs _ nf_784)
    | 16, _ => exact (hs _ nf_785)
    | 17, _ => exact (hs _ nf_786)
    | 18, _ => exact (hs _ nf_787)
    | 19, _ => exact (hs _ nf_788)
    | 20, _ => exact (hs _ nf_789)
    | 21, _ => exact (hs _ nf_790)
    | 22, _ => exact (hs _ nf_791)
    | 23, _ => exact (hs _ nf_792)
    | 24, _ => exact (hs _ nf_793)
    | 25, _ => exact (hs _ nf_794)
    | 26, _ => exact (hs _ nf_795)
    | j + 27, hj => exact absurd hj (by omega)) hA
theorem st_48 {args : Array Value} {s : State} {A : Nat → Prop} (hs : ∀ c ∈ nfl, c.before args s = true) (hA : ∀ a : Nat, a < s.heap.size → ¬ A a) : ∃ q, StrOk ("RainWishes", 408, "no such sort, or not so many", 48) args s A q :=
  str_of (byt := sb 48) (len := slen 48) (by decide +kernel) (hs _ nf_796) (hs _ nf_797) (hs _ nf_798) (hs _ nf_799) (fun j hj => by
    have hj : j < 28 := hj
    match j, hj with
    | 0, _ => exact (hs _ nf_800)
    | 1, _ => exact (hs _ nf_801)
    | 2, _ => exact (hs _ nf_802)
    | 3, _ => exact (hs _ nf_803)
    | 4, _ => exact (hs _ nf_804)
    | 5, _ => exact (hs _ nf_805)
    | 6, _ => exact (hs _ nf_806)
    | 7, _ => exact (hs _ nf_807)
    | 8, _ => exact (hs _ nf_808)
    | 9, _ => exact (hs _ nf_809)
    | 10, _ => exact (hs _ nf_810)
    | 11, _ => exact (hs _ nf_811)
    | 12, _ => exact (hs _ nf_812)
    | 13, _ => exact (hs _ nf_813)
    | 14, _ => exact (hs _ nf_814)
    | 15, _ => exact (hs _ nf_815)
    | 16, _ => exact (hs _ nf_816)
    | 17, _ => exact (hs _ nf_817)
    | 18, _ => exact (hs _ nf_818)
    | 19, _ => exact (hs _ nf_819)
    | 20, _ => exact (hs _ nf_820)
    | 21, _ => exact (hs _ nf_821)
    | 22, _ => exact (hs _ nf_822)
    | 23, _ => exact (hs _ nf_823)
    | 24, _ => exact (hs _ nf_824)
    | 25, _ => exact (hs _ nf_825)
    | 26, _ => exact (hs _ nf_826)
    | 27, _ => exact (hs _ nf_827)
    | j + 28, hj => exact absurd hj (by omega)) hA
theorem st_49 {args : Array Value} {s : State} {A : Nat → Prop} (hs : ∀ c ∈ nfl, c.before args s = true) (hA : ∀ a : Nat, a < s.heap.size → ¬ A a) : ∃ q, StrOk ("RainWishes", 414, "no such place", 49) args s A q :=
  str_of (byt := sb 49) (len := slen 49) (by decide +kernel) (hs _ nf_828) (hs _ nf_829) (hs _ nf_830) (hs _ nf_831) (fun j hj => by
    have hj : j < 13 := hj
    match j, hj with
    | 0, _ => exact (hs _ nf_832)
    | 1, _ => exact (hs _ nf_833)
    | 2, _ => exact (hs _ nf_834)
    | 3, _ => exact (hs _ nf_835)
    | 4, _ => exact (hs _ nf_836)
    | 5, _ => exact (hs _ nf_837)
    | 6, _ => exact (hs _ nf_838)
    | 7, _ => exact (hs _ nf_839)
    | 8, _ => exact (hs _ nf_840)
    | 9, _ => exact (hs _ nf_841)
    | 10, _ => exact (hs _ nf_842)
    | 11, _ => exact (hs _ nf_843)
    | 12, _ => exact (hs _ nf_844)
    | j + 13, hj => exact absurd hj (by omega)) hA
theorem st_50 {args : Array Value} {s : State} {A : Nat → Prop} (hs : ∀ c ∈ nfl, c.before args s = true) (hA : ∀ a : Nat, a < s.heap.size → ¬ A a) : ∃ q, StrOk ("RainWishes", 437, "no such image", 50) args s A q :=
  str_of (byt := sb 50) (len := slen 50) (by decide +kernel) (hs _ nf_845) (hs _ nf_846) (hs _ nf_847) (hs _ nf_848) (fun j hj => by
    have hj : j < 13 := hj
    match j, hj with
    | 0, _ => exact (hs _ nf_849)
    | 1, _ => exact (hs _ nf_850)
    | 2, _ => exact (hs _ nf_851)
    | 3, _ => exact (hs _ nf_852)
    | 4, _ => exact (hs _ nf_853)
    | 5, _ => exact (hs _ nf_854)
    | 6, _ => exact (hs _ nf_855)
    | 7, _ => exact (hs _ nf_856)
    | 8, _ => exact (hs _ nf_857)
    | 9, _ => exact (hs _ nf_858)
    | 10, _ => exact (hs _ nf_859)
    | 11, _ => exact (hs _ nf_860)
    | 12, _ => exact (hs _ nf_861)
    | j + 13, hj => exact absurd hj (by omega)) hA
theorem st_51 {args : Array Value} {s : State} {A : Nat → Prop} (hs : ∀ c ∈ nfl, c.before args s = true) (hA : ∀ a : Nat, a < s.heap.size → ¬ A a) : ∃ q, StrOk ("RainWishes", 435, "no such image was made", 51) args s A q :=
  str_of (byt := sb 51) (len := slen 51) (by decide +kernel) (hs _ nf_862) (hs _ nf_863) (hs _ nf_864) (hs _ nf_865) (fun j hj => by
    have hj : j < 22 := hj
    match j, hj with
    | 0, _ => exact (hs _ nf_866)
    | 1, _ => exact (hs _ nf_867)
    | 2, _ => exact (hs _ nf_868)
    | 3, _ => exact (hs _ nf_869)
    | 4, _ => exact (hs _ nf_870)
    | 5, _ => exact (hs _ nf_871)
    | 6, _ => exact (hs _ nf_872)
    | 7, _ => exact (hs _ nf_873)
    | 8, _ => exact (hs _ nf_874)
    | 9, _ => exact (hs _ nf_875)
    | 10, _ => exact (hs _ nf_876)
    | 11, _ => exact (hs _ nf_877)
    | 12, _ => exact (hs _ nf_878)
    | 13, _ => exact (hs _ nf_879)
    | 14, _ => exact (hs _ nf_880)
    | 15, _ => exact (hs _ nf_881)
    | 16, _ => exact (hs _ nf_882)
    | 17, _ => exact (hs _ nf_883)
    | 18, _ => exact (hs _ nf_884)
    | 19, _ => exact (hs _ nf_885)
    | 20, _ => exact (hs _ nf_886)
    | 21, _ => exact (hs _ nf_887)
    | j + 22, hj => exact absurd hj (by omega)) hA
theorem st_52 {args : Array Value} {s : State} {A : Nat → Prop} (hs : ∀ c ∈ nfl, c.before args s = true) (hA : ∀ a : Nat, a < s.heap.size → ¬ A a) : ∃ q, StrOk ("RainWishesModel", 236, "sky", 52) args s A q :=
  str_of (byt := sb 52) (len := slen 52) (by decide +kernel) (hs _ nf_888) (hs _ nf_889) (hs _ nf_890) (hs _ nf_891) (fun j hj => by
    have hj : j < 3 := hj
    match j, hj with
    | 0, _ => exact (hs _ nf_892)
    | 1, _ => exact (hs _ nf_893)
    | 2, _ => exact (hs _ nf_894)
    | j + 3, hj => exact absurd hj (by omega)) hA
theorem st_53 {args : Array Value} {s : State} {A : Nat → Prop} (hs : ∀ c ∈ nfl, c.before args s = true) (hA : ∀ a : Nat, a < s.heap.size → ¬ A a) : ∃ q, StrOk ("RainWishesModel", 221, "clouds", 53) args s A q :=
  str_of (byt := sb 53) (len := slen 53) (by decide +kernel) (hs _ nf_896) (hs _ nf_897) (hs _ nf_898) (hs _ nf_899) (fun j hj => by
    have hj : j < 6 := hj
    match j, hj with
    | 0, _ => exact (hs _ nf_900)
    | 1, _ => exact (hs _ nf_901)
    | 2, _ => exact (hs _ nf_902)
    | 3, _ => exact (hs _ nf_903)
    | 4, _ => exact (hs _ nf_904)
    | 5, _ => exact (hs _ nf_905)
    | j + 6, hj => exact absurd hj (by omega)) hA
theorem st_54 {args : Array Value} {s : State} {A : Nat → Prop} (hs : ∀ c ∈ nfl, c.before args s = true) (hA : ∀ a : Nat, a < s.heap.size → ¬ A a) : ∃ q, StrOk ("RainWishesModel", 223, "wind", 54) args s A q :=
  str_of (byt := sb 54) (len := slen 54) (by decide +kernel) (hs _ nf_907) (hs _ nf_908) (hs _ nf_909) (hs _ nf_910) (fun j hj => by
    have hj : j < 4 := hj
    match j, hj with
    | 0, _ => exact (hs _ nf_911)
    | 1, _ => exact (hs _ nf_912)
    | 2, _ => exact (hs _ nf_913)
    | 3, _ => exact (hs _ nf_914)
    | j + 4, hj => exact absurd hj (by omega)) hA
theorem st_55 {args : Array Value} {s : State} {A : Nat → Prop} (hs : ∀ c ∈ nfl, c.before args s = true) (hA : ∀ a : Nat, a < s.heap.size → ¬ A a) : ∃ q, StrOk ("RainWishesModel", 225, "wish", 55) args s A q :=
  str_of (byt := sb 55) (len := slen 55) (by decide +kernel) (hs _ nf_916) (hs _ nf_917) (hs _ nf_918) (hs _ nf_919) (fun j hj => by
    have hj : j < 4 := hj
    match j, hj with
    | 0, _ => exact (hs _ nf_920)
    | 1, _ => exact (hs _ nf_921)
    | 2, _ => exact (hs _ nf_922)
    | 3, _ => exact (hs _ nf_923)
    | j + 4, hj => exact absurd hj (by omega)) hA
theorem st_56 {args : Array Value} {s : State} {A : Nat → Prop} (hs : ∀ c ∈ nfl, c.before args s = true) (hA : ∀ a : Nat, a < s.heap.size → ¬ A a) : ∃ q, StrOk ("RainWishesModel", 211, "by", 56) args s A q :=
  str_of (byt := sb 56) (len := slen 56) (by decide +kernel) (hs _ nf_925) (hs _ nf_926) (hs _ nf_927) (hs _ nf_928) (fun j hj => by
    have hj : j < 2 := hj
    match j, hj with
    | 0, _ => exact (hs _ nf_929)
    | 1, _ => exact (hs _ nf_930)
    | j + 2, hj => exact absurd hj (by omega)) hA
theorem st_57 {args : Array Value} {s : State} {A : Nat → Prop} (hs : ∀ c ∈ nfl, c.before args s = true) (hA : ∀ a : Nat, a < s.heap.size → ¬ A a) : ∃ q, StrOk ("RainWishesModel", 217, "weight", 57) args s A q :=
  str_of (byt := sb 57) (len := slen 57) (by decide +kernel) (hs _ nf_932) (hs _ nf_933) (hs _ nf_934) (hs _ nf_935) (fun j hj => by
    have hj : j < 6 := hj
    match j, hj with
    | 0, _ => exact (hs _ nf_936)
    | 1, _ => exact (hs _ nf_937)
    | 2, _ => exact (hs _ nf_938)
    | 3, _ => exact (hs _ nf_939)
    | 4, _ => exact (hs _ nf_940)
    | 5, _ => exact (hs _ nf_941)
    | j + 6, hj => exact absurd hj (by omega)) hA
theorem st_58 {args : Array Value} {s : State} {A : Nat → Prop} (hs : ∀ c ∈ nfl, c.before args s = true) (hA : ∀ a : Nat, a < s.heap.size → ¬ A a) : ∃ q, StrOk ("RainWishesModel", 219, "must", 58) args s A q :=
  str_of (byt := sb 58) (len := slen 58) (by decide +kernel) (hs _ nf_943) (hs _ nf_944) (hs _ nf_945) (hs _ nf_946) (fun j hj => by
    have hj : j < 4 := hj
    match j, hj with
    | 0, _ => exact (hs _ nf_947)
    | 1, _ => exact (hs _ nf_948)
    | 2, _ => exact (hs _ nf_949)
    | 3, _ => exact (hs _ nf_950)
    | j + 4, hj => exact absurd hj (by omega)) hA
theorem st_59 {args : Array Value} {s : State} {A : Nat → Prop} (hs : ∀ c ∈ nfl, c.before args s = true) (hA : ∀ a : Nat, a < s.heap.size → ¬ A a) : ∃ q, StrOk ("RainWishesModel", 176, "not", 59) args s A q :=
  str_of (byt := sb 59) (len := slen 59) (by decide +kernel) (hs _ nf_952) (hs _ nf_953) (hs _ nf_954) (hs _ nf_955) (fun j hj => by
    have hj : j < 3 := hj
    match j, hj with
    | 0, _ => exact (hs _ nf_956)
    | 1, _ => exact (hs _ nf_957)
    | 2, _ => exact (hs _ nf_958)
    | j + 3, hj => exact absurd hj (by omega)) hA
theorem st_60 {args : Array Value} {s : State} {A : Nat → Prop} (hs : ∀ c ∈ nfl, c.before args s = true) (hA : ∀ a : Nat, a < s.heap.size → ¬ A a) : ∃ q, StrOk ("RainWishesModel", 199, "wet", 60) args s A q :=
  str_of (byt := sb 60) (len := slen 60) (by decide +kernel) (hs _ nf_960) (hs _ nf_961) (hs _ nf_962) (hs _ nf_963) (fun j hj => by
    have hj : j < 3 := hj
    match j, hj with
    | 0, _ => exact (hs _ nf_964)
    | 1, _ => exact (hs _ nf_965)
    | 2, _ => exact (hs _ nf_966)
    | j + 3, hj => exact absurd hj (by omega)) hA
theorem st_61 {args : Array Value} {s : State} {A : Nat → Prop} (hs : ∀ c ∈ nfl, c.before args s = true) (hA : ∀ a : Nat, a < s.heap.size → ¬ A a) : ∃ q, StrOk ("RainWishesModel", 205, "of", 61) args s A q :=
  str_of (byt := sb 61) (len := slen 61) (by decide +kernel) (hs _ nf_968) (hs _ nf_969) (hs _ nf_970) (hs _ nf_971) (fun j hj => by
    have hj : j < 2 := hj
    match j, hj with
    | 0, _ => exact (hs _ nf_972)
    | 1, _ => exact (hs _ nf_973)
    | j + 2, hj => exact absurd hj (by omega)) hA
theorem st_62 {args : Array Value} {s : State} {A : Nat → Prop} (hs : ∀ c ∈ nfl, c.before args s = true) (hA : ∀ a : Nat, a < s.heap.size → ¬ A a) : ∃ q, StrOk ("RainWishesModel", 207, "on", 62) args s A q :=
  str_of (byt := sb 62) (len := slen 62) (by decide +kernel) (hs _ nf_975) (hs _ nf_976) (hs _ nf_977) (hs _ nf_978) (fun j hj => by
    have hj : j < 2 := hj
    match j, hj with
    | 0, _ => exact (hs _ nf_979)
    | 1, _ => exact (hs _ nf_980)
    | j + 2, hj => exact absurd hj (by omega)) hA
theorem st_63 {args : Array Value} {s : State} {A : Nat → Prop} (hs : ∀ c ∈ nfl, c.before args s = true) (hA : ∀ a : Nat, a < s.heap.size → ¬ A a) : ∃ q, StrOk ("RainWishesModel", 209, "all", 63) args s A q :=
  str_of (byt := sb 63) (len := slen 63) (by decide +kernel) (hs _ nf_982) (hs _ nf_983) (hs _ nf_984) (hs _ nf_985) (fun j hj => by
    have hj : j < 3 := hj
    match j, hj with
    | 0, _ => exact (hs _ nf_986)
    | 1, _ => exact (hs _ nf_987)
    | 2, _ => exact (hs _ nf_988)
    | j + 3, hj => exact absurd hj (by omega)) hA
theorem st_64 {args : Array Value} {s : State} {A : Nat → Prop} (hs : ∀ c ∈ nfl, c.before args s = true) (hA : ∀ a : Nat, a < s.heap.size → ¬ A a) : ∃ q, StrOk ("RainWishesModel", 174, "and", 64) args s A q :=
  str_of (byt := sb 64) (len := slen 64) (by decide +kernel) (hs _ nf_990) (hs _ nf_991) (hs _ nf_992) (hs _ nf_993) (fun j hj => by
    have hj : j < 3 := hj
    match j, hj with
    | 0, _ => exact (hs _ nf_994)
    | 1, _ => exact (hs _ nf_995)
    | 2, _ => exact (hs _ nf_996)
    | j + 3, hj => exact absurd hj (by omega)) hA
theorem st_65 {args : Array Value} {s : State} {A : Nat → Prop} (hs : ∀ c ∈ nfl, c.before args s = true) (hA : ∀ a : Nat, a < s.heap.size → ¬ A a) : ∃ q, StrOk ("RainWishesModel", 166, "or", 65) args s A q :=
  str_of (byt := sb 65) (len := slen 65) (by decide +kernel) (hs _ nf_998) (hs _ nf_999) (hs _ nf_1000) (hs _ nf_1001) (fun j hj => by
    have hj : j < 2 := hj
    match j, hj with
    | 0, _ => exact (hs _ nf_1002)
    | 1, _ => exact (hs _ nf_1003)
    | j + 2, hj => exact absurd hj (by omega)) hA
theorem strs_ok {args : Array Value} {s : State} {A : Nat → Prop} (hs : ∀ c ∈ nfl, c.before args s = true) (hA : ∀ a : Nat, a < s.heap.size → ¬ A a) : ∀ n : Nat, ∃ q : Nat × Nat, ∀ e, skL[n]? = some e → StrOk e args s A q := by
  intro n
  match n with
  | 0 => exact (st_0 hs hA).elim fun q hq => ⟨q, fun e he => by cases Option.some.inj he; exact hq⟩
  | 1 => exact (st_1 hs hA).elim fun q hq => ⟨q, fun e he => by cases Option.some.inj he; exact hq⟩
  | 2 => exact (st_2 hs hA).elim fun q hq => ⟨q, fun e he => by cases Option.some.inj he; exact hq⟩
  | 3 => exact (st_3 hs hA).elim fun q hq => ⟨q, fun e he => by cases Option.some.inj he; exact hq⟩
  | 4 => exact (st_4 hs hA).elim fun q hq => ⟨q, fun e he => by cases Option.some.inj he; exact hq⟩
  | 5 => exact (st_5 hs hA).elim fun q hq => ⟨q, fun e he => by cases Option.some.inj he; exact hq⟩
  | 6 => exact (st_6 hs hA).elim fun q hq => ⟨q, fun e he => by cases Option.some.inj he; exact hq⟩
  | 7 => exact (st_7 hs hA).elim fun q hq => ⟨q, fun e he => by cases Option.some.inj he; exact hq⟩
  | 8 => exact (st_8 hs hA).elim fun q hq => ⟨q, fun e he => by cases Option.some.inj he; exact hq⟩
  | 9 => exact (st_9 hs hA).elim fun q hq => ⟨q, fun e he => by cases Option.some.inj he; exact hq⟩
  | 10 => exact (st_10 hs hA).elim fun q hq => ⟨q, fun e he => by cases Option.some.inj he; exact hq⟩
  | 11 => exact (st_11 hs hA).elim fun q hq => ⟨q, fun e he => by cases Option.some.inj he; exact hq⟩
  | 12 => exact (st_12 hs hA).elim fun q hq => ⟨q, fun e he => by cases Option.some.inj he; exact hq⟩
  | 13 => exact (st_13 hs hA).elim fun q hq => ⟨q, fun e he => by cases Option.some.inj he; exact hq⟩
  | 14 => exact (st_14 hs hA).elim fun q hq => ⟨q, fun e he => by cases Option.some.inj he; exact hq⟩
  | 15 => exact (st_15 hs hA).elim fun q hq => ⟨q, fun e he => by cases Option.some.inj he; exact hq⟩
  | 16 => exact (st_16 hs hA).elim fun q hq => ⟨q, fun e he => by cases Option.some.inj he; exact hq⟩
  | 17 => exact (st_17 hs hA).elim fun q hq => ⟨q, fun e he => by cases Option.some.inj he; exact hq⟩
  | 18 => exact (st_18 hs hA).elim fun q hq => ⟨q, fun e he => by cases Option.some.inj he; exact hq⟩
  | 19 => exact (st_19 hs hA).elim fun q hq => ⟨q, fun e he => by cases Option.some.inj he; exact hq⟩
  | 20 => exact (st_20 hs hA).elim fun q hq => ⟨q, fun e he => by cases Option.some.inj he; exact hq⟩
  | 21 => exact (st_21 hs hA).elim fun q hq => ⟨q, fun e he => by cases Option.some.inj he; exact hq⟩
  | 22 => exact (st_22 hs hA).elim fun q hq => ⟨q, fun e he => by cases Option.some.inj he; exact hq⟩
  | 23 => exact (st_23 hs hA).elim fun q hq => ⟨q, fun e he => by cases Option.some.inj he; exact hq⟩
  | 24 => exact (st_24 hs hA).elim fun q hq => ⟨q, fun e he => by cases Option.some.inj he; exact hq⟩
  | 25 => exact (st_25 hs hA).elim fun q hq => ⟨q, fun e he => by cases Option.some.inj he; exact hq⟩
  | 26 => exact (st_26 hs hA).elim fun q hq => ⟨q, fun e he => by cases Option.some.inj he; exact hq⟩
  | 27 => exact (st_27 hs hA).elim fun q hq => ⟨q, fun e he => by cases Option.some.inj he; exact hq⟩
  | 28 => exact (st_28 hs hA).elim fun q hq => ⟨q, fun e he => by cases Option.some.inj he; exact hq⟩
  | 29 => exact (st_29 hs hA).elim fun q hq => ⟨q, fun e he => by cases Option.some.inj he; exact hq⟩
  | 30 => exact (st_30 hs hA).elim fun q hq => ⟨q, fun e he => by cases Option.some.inj he; exact hq⟩
  | 31 => exact (st_31 hs hA).elim fun q hq => ⟨q, fun e he => by cases Option.some.inj he; exact hq⟩
  | 32 => exact (st_32 hs hA).elim fun q hq => ⟨q, fun e he => by cases Option.some.inj he; exact hq⟩
  | 33 => exact (st_33 hs hA).elim fun q hq => ⟨q, fun e he => by cases Option.some.inj he; exact hq⟩
  | 34 => exact (st_34 hs hA).elim fun q hq => ⟨q, fun e he => by cases Option.some.inj he; exact hq⟩
  | 35 => exact (st_35 hs hA).elim fun q hq => ⟨q, fun e he => by cases Option.some.inj he; exact hq⟩
  | 36 => exact (st_36 hs hA).elim fun q hq => ⟨q, fun e he => by cases Option.some.inj he; exact hq⟩
  | 37 => exact (st_37 hs hA).elim fun q hq => ⟨q, fun e he => by cases Option.some.inj he; exact hq⟩
  | 38 => exact (st_38 hs hA).elim fun q hq => ⟨q, fun e he => by cases Option.some.inj he; exact hq⟩
  | 39 => exact (st_39 hs hA).elim fun q hq => ⟨q, fun e he => by cases Option.some.inj he; exact hq⟩
  | 40 => exact (st_40 hs hA).elim fun q hq => ⟨q, fun e he => by cases Option.some.inj he; exact hq⟩
  | 41 => exact (st_41 hs hA).elim fun q hq => ⟨q, fun e he => by cases Option.some.inj he; exact hq⟩
  | 42 => exact (st_42 hs hA).elim fun q hq => ⟨q, fun e he => by cases Option.some.inj he; exact hq⟩
  | 43 => exact (st_43 hs hA).elim fun q hq => ⟨q, fun e he => by cases Option.some.inj he; exact hq⟩
  | 44 => exact (st_44 hs hA).elim fun q hq => ⟨q, fun e he => by cases Option.some.inj he; exact hq⟩
  | 45 => exact (st_45 hs hA).elim fun q hq => ⟨q, fun e he => by cases Option.some.inj he; exact hq⟩
  | 46 => exact (st_46 hs hA).elim fun q hq => ⟨q, fun e he => by cases Option.some.inj he; exact hq⟩
  | 47 => exact (st_47 hs hA).elim fun q hq => ⟨q, fun e he => by cases Option.some.inj he; exact hq⟩
  | 48 => exact (st_48 hs hA).elim fun q hq => ⟨q, fun e he => by cases Option.some.inj he; exact hq⟩
  | 49 => exact (st_49 hs hA).elim fun q hq => ⟨q, fun e he => by cases Option.some.inj he; exact hq⟩
  | 50 => exact (st_50 hs hA).elim fun q hq => ⟨q, fun e he => by cases Option.some.inj he; exact hq⟩
  | 51 => exact (st_51 hs hA).elim fun q hq => ⟨q, fun e he => by cases Option.some.inj he; exact hq⟩
  | 52 => exact (st_52 hs hA).elim fun q hq => ⟨q, fun e he => by cases Option.some.inj he; exact hq⟩
  | 53 => exact (st_53 hs hA).elim fun q hq => ⟨q, fun e he => by cases Option.some.inj he; exact hq⟩
  | 54 => exact (st_54 hs hA).elim fun q hq => ⟨q, fun e he => by cases Option.some.inj he; exact hq⟩
  | 55 => exact (st_55 hs hA).elim fun q hq => ⟨q, fun e he => by cases Option.some.inj he; exact hq⟩
  | 56 => exact (st_56 hs hA).elim fun q hq => ⟨q, fun e he => by cases Option.some.inj he; exact hq⟩
  | 57 => exact (st_57 hs hA).elim fun q hq => ⟨q, fun e he => by cases Option.some.inj he; exact hq⟩
  | 58 => exact (st_58 hs hA).elim fun q hq => ⟨q, fun e he => by cases Option.some.inj he; exact hq⟩
  | 59 => exact (st_59 hs hA).elim fun q hq => ⟨q, fun e he => by cases Option.some.inj he; exact hq⟩
  | 60 => exact (st_60 hs hA).elim fun q hq => ⟨q, fun e he => by cases Option.some.inj he; exact hq⟩
  | 61 => exact (st_61 hs hA).elim fun q hq => ⟨q, fun e he => by cases Option.some.inj he; exact hq⟩
  | 62 => exact (st_62 hs hA).elim fun q hq => ⟨q, fun e he => by cases Option.some.inj he; exact hq⟩
  | 63 => exact (st_63 hs hA).elim fun q hq => ⟨q, fun e he => by cases Option.some.inj he; exact hq⟩
  | 64 => exact (st_64 hs hA).elim fun q hq => ⟨q, fun e he => by cases Option.some.inj he; exact hq⟩
  | 65 => exact (st_65 hs hA).elim fun q hq => ⟨q, fun e he => by cases Option.some.inj he; exact hq⟩
  | n + 66 => exact ⟨(0, 0), fun e he => by simp [skL] at he⟩
theorem skL_n : ∀ n, n < NS → ∃ e, skL[n]? = some e ∧ e.2.2.2 = n := by decide +kernel
theorem skL_m : ∀ q ∈ skL, skL[q.2.2.2]? = some q ∧ q.2.2.2 < NS := by decide +kernel
theorem sref_ok {args : Array Value} {s : State} (hts : ∀ w ∈ lw_tbl, w.before args s = true) : ∀ q ∈ skL, (Cond.stringRef q.1 q.2.1 q.2.2.1).before args s = true := by
  have h : ∀ w ∈ skL.map (fun q => Cond.stringRef q.1 q.2.1 q.2.2.1), w ∈ lw_tbl := by
    intro w hw
    obtain ⟨q, hq, rfl⟩ := List.mem_map.mp hw
    obtain ⟨i, hi⟩ := List.getElem?_of_mem hq
    match i, hi with
    | 0, hi => cases Option.some.inj hi; exact (List.mem_append_right _ (by unfold tables_1; exact List.mem_append_right _ (List.mem_append_right _ (List.mem_append_left _ (List.mem_of_getElem? (i := 221) rfl)))))
    | 1, hi => cases Option.some.inj hi; exact (List.mem_append_right _ (by unfold tables_1; exact List.mem_append_right _ (List.mem_append_right _ (List.mem_append_right _ (List.mem_append_left _ (List.mem_of_getElem? (i := 31) rfl))))))
    | 2, hi => cases Option.some.inj hi; exact (List.mem_append_right _ (by unfold tables_1; exact List.mem_append_right _ (List.mem_append_right _ (List.mem_append_right _ (List.mem_append_left _ (List.mem_of_getElem? (i := 122) rfl))))))
    | 3, hi => cases Option.some.inj hi; exact (List.mem_append_right _ (by unfold tables_1; exact List.mem_append_right _ (List.mem_append_right _ (List.mem_append_right _ (List.mem_append_left _ (List.mem_of_getElem? (i := 171) rfl))))))
    | 4, hi => cases Option.some.inj hi; exact (List.mem_append_right _ (by unfold tables_1; exact List.mem_append_right _ (List.mem_append_right _ (List.mem_append_right _ (List.mem_append_left _ (List.mem_of_getElem? (i := 176) rfl))))))
    | 5, hi => cases Option.some.inj hi; exact (List.mem_append_right _ (by unfold tables_1; exact List.mem_append_right _ (List.mem_append_right _ (List.mem_append_right _ (List.mem_append_left _ (List.mem_of_getElem? (i := 181) rfl))))))
    | 6, hi => cases Option.some.inj hi; exact (List.mem_append_right _ (by unfold tables_1; exact List.mem_append_right _ (List.mem_append_right _ (List.mem_append_right _ (List.mem_append_left _ (List.mem_of_getElem? (i := 182) rfl))))))
    | 7, hi => cases Option.some.inj hi; exact (List.mem_append_right _ (by unfold tables_1; exact List.mem_append_right _ (List.mem_append_right _ (List.mem_append_right _ (List.mem_append_left _ (List.mem_of_getElem? (i := 183) rfl))))))
    | 8, hi => cases Option.some.inj hi; exact (List.mem_append_right _ (by unfold tables_1; exact List.mem_append_right _ (List.mem_append_right _ (List.mem_append_right _ (List.mem_append_left _ (List.mem_of_getElem? (i := 184) rfl))))))
    | 9, hi => cases Option.some.inj hi; exact (List.mem_append_right _ (by unfold tables_1; exact List.mem_append_right _ (List.mem_append_right _ (List.mem_append_right _ (List.mem_append_left _ (List.mem_of_getElem? (i := 185) rfl))))))
    | 10, hi => cases Option.some.inj hi; exact (List.mem_append_right _ (by unfold tables_1; exact List.mem_append_right _ (List.mem_append_right _ (List.mem_append_right _ (List.mem_append_left _ (List.mem_of_getElem? (i := 186) rfl))))))
    | 11, hi => cases Option.some.inj hi; exact (List.mem_append_right _ (by unfold tables_1; exact List.mem_append_right _ (List.mem_append_right _ (List.mem_append_right _ (List.mem_append_left _ (List.mem_of_getElem? (i := 191) rfl))))))
    | 12, hi => cases Option.some.inj hi; exact (List.mem_append_right _ (by unfold tables_1; exact List.mem_append_right _ (List.mem_append_right _ (List.mem_append_right _ (List.mem_append_left _ (List.mem_of_getElem? (i := 200) rfl))))))
    | 13, hi => cases Option.some.inj hi; exact (List.mem_append_right _ (by unfold tables_1; exact List.mem_append_right _ (List.mem_append_right _ (List.mem_append_right _ (List.mem_append_left _ (List.mem_of_getElem? (i := 201) rfl))))))
    | 14, hi => cases Option.some.inj hi; exact (List.mem_append_right _ (by unfold tables_1; exact List.mem_append_right _ (List.mem_append_right _ (List.mem_append_right _ (List.mem_append_left _ (List.mem_of_getElem? (i := 210) rfl))))))
    | 15, hi => cases Option.some.inj hi; exact (List.mem_append_right _ (by unfold tables_1; exact List.mem_append_right _ (List.mem_append_right _ (List.mem_append_right _ (List.mem_append_left _ (List.mem_of_getElem? (i := 211) rfl))))))
    | 16, hi => cases Option.some.inj hi; exact (List.mem_append_right _ (by unfold tables_1; exact List.mem_append_right _ (List.mem_append_right _ (List.mem_append_right _ (List.mem_append_left _ (List.mem_of_getElem? (i := 212) rfl))))))
    | 17, hi => cases Option.some.inj hi; exact (List.mem_append_right _ (by unfold tables_1; exact List.mem_append_right _ (List.mem_append_right _ (List.mem_append_right _ (List.mem_append_left _ (List.mem_of_getElem? (i := 213) rfl))))))
    | 18, hi => cases Option.some.inj hi; exact (List.mem_append_right _ (by unfold tables_1; exact List.mem_append_right _ (List.mem_append_right _ (List.mem_append_right _ (List.mem_append_left _ (List.mem_of_getElem? (i := 230) rfl))))))
    | 19, hi => cases Option.some.inj hi; exact (List.mem_append_right _ (by unfold tables_1; exact List.mem_append_right _ (List.mem_append_right _ (List.mem_append_right _ (List.mem_append_left _ (List.mem_of_getElem? (i := 231) rfl))))))
    | 20, hi => cases Option.some.inj hi; exact (List.mem_append_right _ (by unfold tables_1; exact List.mem_append_right _ (List.mem_append_right _ (List.mem_append_right _ (List.mem_append_left _ (List.mem_of_getElem? (i := 232) rfl))))))
    | 21, hi => cases Option.some.inj hi; exact (List.mem_append_right _ (by unfold tables_1; exact List.mem_append_right _ (List.mem_append_right _ (List.mem_append_right _ (List.mem_append_right _ (List.mem_append_left _ (List.mem_of_getElem? (i := 3) rfl)))))))
    | 22, hi => cases Option.some.inj hi; exact (List.mem_append_right _ (by unfold tables_1; exact List.mem_append_right _ (List.mem_append_right _ (List.mem_append_right _ (List.mem_append_right _ (List.mem_append_left _ (List.mem_of_getElem? (i := 12) rfl)))))))
    | 23, hi => cases Option.some.inj hi; exact (List.mem_append_right _ (by unfold tables_1; exact List.mem_append_right _ (List.mem_append_right _ (List.mem_append_right _ (List.mem_append_right _ (List.mem_append_left _ (List.mem_of_getElem? (i := 13) rfl)))))))
    | 24, hi => cases Option.some.inj hi; exact (List.mem_append_right _ (by unfold tables_1; exact List.mem_append_right _ (List.mem_append_right _ (List.mem_append_right _ (List.mem_append_right _ (List.mem_append_left _ (List.mem_of_getElem? (i := 14) rfl)))))))
    | 25, hi => cases Option.some.inj hi; exact (List.mem_append_right _ (by unfold tables_1; exact List.mem_append_right _ (List.mem_append_right _ (List.mem_append_right _ (List.mem_append_right _ (List.mem_append_left _ (List.mem_of_getElem? (i := 15) rfl)))))))
    | 26, hi => cases Option.some.inj hi; exact (List.mem_append_right _ (by unfold tables_1; exact List.mem_append_right _ (List.mem_append_right _ (List.mem_append_right _ (List.mem_append_right _ (List.mem_append_left _ (List.mem_of_getElem? (i := 16) rfl)))))))
    | 27, hi => cases Option.some.inj hi; exact (List.mem_append_right _ (by unfold tables_1; exact List.mem_append_right _ (List.mem_append_right _ (List.mem_append_right _ (List.mem_append_right _ (List.mem_append_left _ (List.mem_of_getElem? (i := 17) rfl)))))))
    | 28, hi => cases Option.some.inj hi; exact (List.mem_append_right _ (by unfold tables_1; exact List.mem_append_right _ (List.mem_append_right _ (List.mem_append_right _ (List.mem_append_right _ (List.mem_append_left _ (List.mem_of_getElem? (i := 65) rfl)))))))
    | 29, hi => cases Option.some.inj hi; exact (List.mem_append_right _ (by unfold tables_1; exact List.mem_append_right _ (List.mem_append_right _ (List.mem_append_right _ (List.mem_append_right _ (List.mem_append_left _ (List.mem_of_getElem? (i := 76) rfl)))))))
    | 30, hi => cases Option.some.inj hi; exact (List.mem_append_right _ (by unfold tables_1; exact List.mem_append_right _ (List.mem_append_right _ (List.mem_append_right _ (List.mem_append_right _ (List.mem_append_left _ (List.mem_of_getElem? (i := 88) rfl)))))))
    | 31, hi => cases Option.some.inj hi; exact (List.mem_append_right _ (by unfold tables_1; exact List.mem_append_right _ (List.mem_append_right _ (List.mem_append_right _ (List.mem_append_right _ (List.mem_append_left _ (List.mem_of_getElem? (i := 116) rfl)))))))
    | 32, hi => cases Option.some.inj hi; exact (List.mem_append_right _ (by unfold tables_1; exact List.mem_append_right _ (List.mem_append_right _ (List.mem_append_right _ (List.mem_append_right _ (List.mem_append_left _ (List.mem_of_getElem? (i := 140) rfl)))))))
    | 33, hi => cases Option.some.inj hi; exact (List.mem_append_right _ (by unfold tables_1; exact List.mem_append_right _ (List.mem_append_right _ (List.mem_append_right _ (List.mem_append_right _ (List.mem_append_left _ (List.mem_of_getElem? (i := 203) rfl)))))))
    | 34, hi => cases Option.some.inj hi; exact (List.mem_append_right _ (by unfold tables_1; exact List.mem_append_right _ (List.mem_append_right _ (List.mem_append_right _ (List.mem_append_right _ (List.mem_append_left _ (List.mem_of_getElem? (i := 208) rfl)))))))
    | 35, hi => cases Option.some.inj hi; exact (List.mem_append_right _ (by unfold tables_1; exact List.mem_append_right _ (List.mem_append_right _ (List.mem_append_right _ (List.mem_append_right _ (List.mem_append_right _ (List.mem_append_left _ (List.mem_of_getElem? (i := 0) rfl))))))))
    | 36, hi => cases Option.some.inj hi; exact (List.mem_append_right _ (by unfold tables_1; exact List.mem_append_right _ (List.mem_append_right _ (List.mem_append_right _ (List.mem_append_right _ (List.mem_append_right _ (List.mem_append_left _ (List.mem_of_getElem? (i := 12) rfl))))))))
    | 37, hi => cases Option.some.inj hi; exact (List.mem_append_right _ (by unfold tables_1; exact List.mem_append_right _ (List.mem_append_right _ (List.mem_append_right _ (List.mem_append_right _ (List.mem_append_right _ (List.mem_append_left _ (List.mem_of_getElem? (i := 46) rfl))))))))
    | 38, hi => cases Option.some.inj hi; exact (List.mem_append_right _ (by unfold tables_1; exact List.mem_append_right _ (List.mem_append_right _ (List.mem_append_right _ (List.mem_append_right _ (List.mem_append_right _ (List.mem_append_left _ (List.mem_of_getElem? (i := 56) rfl))))))))
    | 39, hi => cases Option.some.inj hi; exact (List.mem_append_right _ (by unfold tables_1; exact List.mem_append_right _ (List.mem_append_right _ (List.mem_append_right _ (List.mem_append_right _ (List.mem_append_right _ (List.mem_append_left _ (List.mem_of_getElem? (i := 63) rfl))))))))
    | 40, hi => cases Option.some.inj hi; exact (List.mem_append_right _ (by unfold tables_1; exact List.mem_append_right _ (List.mem_append_right _ (List.mem_append_right _ (List.mem_append_right _ (List.mem_append_right _ (List.mem_append_left _ (List.mem_of_getElem? (i := 68) rfl))))))))
    | 41, hi => cases Option.some.inj hi; exact (List.mem_append_right _ (by unfold tables_1; exact List.mem_append_right _ (List.mem_append_right _ (List.mem_append_right _ (List.mem_append_right _ (List.mem_append_right _ (List.mem_append_left _ (List.mem_of_getElem? (i := 108) rfl))))))))
    | 42, hi => cases Option.some.inj hi; exact (List.mem_append_right _ (by unfold tables_1; exact List.mem_append_right _ (List.mem_append_right _ (List.mem_append_right _ (List.mem_append_right _ (List.mem_append_right _ (List.mem_append_left _ (List.mem_of_getElem? (i := 153) rfl))))))))
    | 43, hi => cases Option.some.inj hi; exact (List.mem_append_right _ (by unfold tables_1; exact List.mem_append_right _ (List.mem_append_right _ (List.mem_append_right _ (List.mem_append_right _ (List.mem_append_right _ (List.mem_append_left _ (List.mem_of_getElem? (i := 175) rfl))))))))
    | 44, hi => cases Option.some.inj hi; exact (List.mem_append_right _ (by unfold tables_1; exact List.mem_append_right _ (List.mem_append_right _ (List.mem_append_right _ (List.mem_append_right _ (List.mem_append_right _ (List.mem_append_left _ (List.mem_of_getElem? (i := 183) rfl))))))))
    | 45, hi => cases Option.some.inj hi; exact (List.mem_append_right _ (by unfold tables_1; exact List.mem_append_right _ (List.mem_append_right _ (List.mem_append_right _ (List.mem_append_right _ (List.mem_append_right _ (List.mem_append_left _ (List.mem_of_getElem? (i := 209) rfl))))))))
    | 46, hi => cases Option.some.inj hi; exact (List.mem_append_right _ (by unfold tables_1; exact List.mem_append_right _ (List.mem_append_right _ (List.mem_append_right _ (List.mem_append_right _ (List.mem_append_right _ (List.mem_append_left _ (List.mem_of_getElem? (i := 225) rfl))))))))
    | 47, hi => cases Option.some.inj hi; exact (List.mem_append_right _ (by unfold tables_1; exact List.mem_append_right _ (List.mem_append_right _ (List.mem_append_right _ (List.mem_append_right _ (List.mem_append_right _ (List.mem_append_left _ (List.mem_of_getElem? (i := 231) rfl))))))))
    | 48, hi => cases Option.some.inj hi; exact (List.mem_append_right _ (by unfold tables_1; exact List.mem_append_right _ (List.mem_append_right _ (List.mem_append_right _ (List.mem_append_right _ (List.mem_append_right _ (List.mem_append_right _ (List.mem_append_left _ (List.mem_of_getElem? (i := 25) rfl)))))))))
    | 49, hi => cases Option.some.inj hi; exact (List.mem_append_right _ (by unfold tables_1; exact List.mem_append_right _ (List.mem_append_right _ (List.mem_append_right _ (List.mem_append_right _ (List.mem_append_right _ (List.mem_append_right _ (List.mem_append_left _ (List.mem_of_getElem? (i := 50) rfl)))))))))
    | 50, hi => cases Option.some.inj hi; exact (List.mem_append_right _ (by unfold tables_1; exact List.mem_append_right _ (List.mem_append_right _ (List.mem_append_right _ (List.mem_append_right _ (List.mem_append_right _ (List.mem_append_right _ (List.mem_append_left _ (List.mem_of_getElem? (i := 80) rfl)))))))))
    | 51, hi => cases Option.some.inj hi; exact (List.mem_append_right _ (by unfold tables_1; exact List.mem_append_right _ (List.mem_append_right _ (List.mem_append_right _ (List.mem_append_right _ (List.mem_append_right _ (List.mem_append_right _ (List.mem_append_left _ (List.mem_of_getElem? (i := 92) rfl)))))))))
    | 52, hi => cases Option.some.inj hi; exact (List.mem_append_right _ (by unfold tables_1; exact List.mem_append_right _ (List.mem_append_right _ (List.mem_append_right _ (List.mem_append_right _ (List.mem_append_right _ (List.mem_append_right _ (List.mem_append_right _ (List.mem_append_left _ (List.mem_of_getElem? (i := 56) rfl))))))))))
    | 53, hi => cases Option.some.inj hi; exact (List.mem_append_right _ (by unfold tables_1; exact List.mem_append_right _ (List.mem_append_right _ (List.mem_append_right _ (List.mem_append_right _ (List.mem_append_right _ (List.mem_append_right _ (List.mem_append_right _ (List.mem_append_left _ (List.mem_of_getElem? (i := 92) rfl))))))))))
    | 54, hi => cases Option.some.inj hi; exact (List.mem_append_right _ (by unfold tables_1; exact List.mem_append_right _ (List.mem_append_right _ (List.mem_append_right _ (List.mem_append_right _ (List.mem_append_right _ (List.mem_append_right _ (List.mem_append_right _ (List.mem_append_left _ (List.mem_of_getElem? (i := 93) rfl))))))))))
    | 55, hi => cases Option.some.inj hi; exact (List.mem_append_right _ (by unfold tables_1; exact List.mem_append_right _ (List.mem_append_right _ (List.mem_append_right _ (List.mem_append_right _ (List.mem_append_right _ (List.mem_append_right _ (List.mem_append_right _ (List.mem_append_left _ (List.mem_of_getElem? (i := 94) rfl))))))))))
    | 56, hi => cases Option.some.inj hi; exact (List.mem_append_right _ (by unfold tables_1; exact List.mem_append_right _ (List.mem_append_right _ (List.mem_append_right _ (List.mem_append_right _ (List.mem_append_right _ (List.mem_append_right _ (List.mem_append_right _ (List.mem_append_left _ (List.mem_of_getElem? (i := 99) rfl))))))))))
    | 57, hi => cases Option.some.inj hi; exact (List.mem_append_right _ (by unfold tables_1; exact List.mem_append_right _ (List.mem_append_right _ (List.mem_append_right _ (List.mem_append_right _ (List.mem_append_right _ (List.mem_append_right _ (List.mem_append_right _ (List.mem_append_left _ (List.mem_of_getElem? (i := 100) rfl))))))))))
    | 58, hi => cases Option.some.inj hi; exact (List.mem_append_right _ (by unfold tables_1; exact List.mem_append_right _ (List.mem_append_right _ (List.mem_append_right _ (List.mem_append_right _ (List.mem_append_right _ (List.mem_append_right _ (List.mem_append_right _ (List.mem_append_left _ (List.mem_of_getElem? (i := 101) rfl))))))))))
    | 59, hi => cases Option.some.inj hi; exact (List.mem_append_right _ (by unfold tables_1; exact List.mem_append_right _ (List.mem_append_right _ (List.mem_append_right _ (List.mem_append_right _ (List.mem_append_right _ (List.mem_append_right _ (List.mem_append_right _ (List.mem_append_left _ (List.mem_of_getElem? (i := 114) rfl))))))))))
    | 60, hi => cases Option.some.inj hi; exact (List.mem_append_right _ (by unfold tables_1; exact List.mem_append_right _ (List.mem_append_right _ (List.mem_append_right _ (List.mem_append_right _ (List.mem_append_right _ (List.mem_append_right _ (List.mem_append_right _ (List.mem_append_left _ (List.mem_of_getElem? (i := 139) rfl))))))))))
    | 61, hi => cases Option.some.inj hi; exact (List.mem_append_right _ (by unfold tables_1; exact List.mem_append_right _ (List.mem_append_right _ (List.mem_append_right _ (List.mem_append_right _ (List.mem_append_right _ (List.mem_append_right _ (List.mem_append_right _ (List.mem_append_left _ (List.mem_of_getElem? (i := 140) rfl))))))))))
    | 62, hi => cases Option.some.inj hi; exact (List.mem_append_right _ (by unfold tables_1; exact List.mem_append_right _ (List.mem_append_right _ (List.mem_append_right _ (List.mem_append_right _ (List.mem_append_right _ (List.mem_append_right _ (List.mem_append_right _ (List.mem_append_left _ (List.mem_of_getElem? (i := 141) rfl))))))))))
    | 63, hi => cases Option.some.inj hi; exact (List.mem_append_right _ (by unfold tables_1; exact List.mem_append_right _ (List.mem_append_right _ (List.mem_append_right _ (List.mem_append_right _ (List.mem_append_right _ (List.mem_append_right _ (List.mem_append_right _ (List.mem_append_left _ (List.mem_of_getElem? (i := 142) rfl))))))))))
    | 64, hi => cases Option.some.inj hi; exact (List.mem_append_right _ (by unfold tables_1; exact List.mem_append_right _ (List.mem_append_right _ (List.mem_append_right _ (List.mem_append_right _ (List.mem_append_right _ (List.mem_append_right _ (List.mem_append_right _ (List.mem_append_left _ (List.mem_of_getElem? (i := 143) rfl))))))))))
    | 65, hi => cases Option.some.inj hi; exact (List.mem_append_right _ (by unfold tables_1; exact List.mem_append_right _ (List.mem_append_right _ (List.mem_append_right _ (List.mem_append_right _ (List.mem_append_right _ (List.mem_append_right _ (List.mem_append_right _ (List.mem_append_left _ (List.mem_of_getElem? (i := 144) rfl))))))))))
    | i + 66, hi => simp [skL] at hi
  intro q hq
  exact hts _ (h _ (List.mem_map.mpr ⟨q, hq, rfl⟩))
theorem ro_start {args : Array Value} {s : State} {A : Nat → Prop} {b bs : Nat} (hts : ∀ w ∈ lw_tbl, w.before args s = true) (hs : ∀ c ∈ nfl, c.before args s = true) (hA : ∀ a : Nat, a < s.heap.size → ¬ A a) : ∃ st : Nat → Nat, st 197 = bs ∧ RO (adx b st) A s s.heap := by
  obtain ⟨f, hf⟩ := Classical.axiomOfChoice (strs_ok (args := args) (s := s) (A := A) hs hA)
  obtain ⟨t, ht, hT⟩ := va_Tof (tm := Jvm.Term.static "RainWishes$Parser" "TIGHT" "[I") (ty := .int) (N := 11) (f := fun j => .int (tgL.getD j 0)) (A := A) (by decide +kernel) (hs _ nf_12) (va_eqt (hs _ nf_13)) (fun j hj => by
    match j, hj with
    | 0, _ => exact va_eqt (hs _ nf_14)
    | 1, _ => exact va_eqt (hs _ nf_15)
    | 2, _ => exact va_eqt (hs _ nf_16)
    | 3, _ => exact va_eqt (hs _ nf_17)
    | 4, _ => exact va_eqt (hs _ nf_18)
    | 5, _ => exact va_eqt (hs _ nf_19)
    | 6, _ => exact va_eqt (hs _ nf_20)
    | 7, _ => exact va_eqt (hs _ nf_21)
    | 8, _ => exact va_eqt (hs _ nf_22)
    | 9, _ => exact va_eqt (hs _ nf_23)
    | 10, _ => exact va_eqt (hs _ nf_24)
    | j + 11, hj => exact absurd hj (by omega)) hA
  have hsf := va_Zqof (A := A) (hts _ (List.mem_append_right _ (by unfold tables_1; exact List.mem_append_right _ (List.mem_append_right _ (List.mem_append_right _ (List.mem_append_left _ (List.mem_of_getElem? (i := 88) rfl))))))) (hts _ (List.mem_append_right _ (by unfold tables_1; exact List.mem_append_left _ (List.mem_of_getElem? (i := 23) rfl)))) (hs _ nf_7) hA
  obtain ⟨z, hz⟩ : ∃ z : Nat, va_Z "jdk/internal/util/Preconditions" "SIOOBE_FORMATTER" sfD .null A s s.heap ∨ va_Z "jdk/internal/util/Preconditions" "SIOOBE_FORMATTER" sfD (.ref z) A s s.heap := by
    rcases hsf with h | ⟨z, h⟩
    · exact ⟨0, Or.inl h⟩
    · exact ⟨z, Or.inr h⟩
  refine ⟨fun i => if i = 197 then bs else if i = 198 then z else if i = 199 then t else if i < 300 then (f (i - 200)).1 else (f (i - 300)).2, rfl, ?_, ?_, ?_, ?_, ?_, ?_, ?_, ?_, ?_, ?_, ?_⟩
  · intro i hi
    have hi9 : i < 66 := hi
    obtain ⟨e, he, hn⟩ := skL_n i hi
    obtain ⟨h1, h2, h3, h4, h5⟩ := hf i e he
    rw [hn] at h5
    have a1 : adx b (fun i => if i = 197 then bs else if i = 198 then z else if i = 199 then t else if i < 300 then (f (i - 200)).1 else (f (i - 300)).2) (200 + i) = (f i).1 := by
      unfold adx
      rw [if_neg (by omega)]
      dsimp only
      rw [if_neg (by omega), if_neg (by omega), if_neg (by omega), if_pos (by omega), Nat.add_sub_cancel_left]
    have a2 : adx b (fun i => if i = 197 then bs else if i = 198 then z else if i = 199 then t else if i < 300 then (f (i - 200)).1 else (f (i - 300)).2) (300 + i) = (f i).2 := by
      unfold adx
      rw [if_neg (by omega)]
      dsimp only
      rw [if_neg (by omega), if_neg (by omega), if_neg (by omega), if_neg (by omega), Nat.add_sub_cancel_left]
    rw [a1, a2]
    exact ⟨h2, h3, h4, h5⟩
  · intro q hq
    obtain ⟨m1, m2⟩ := skL_m q hq
    have m3 : q.2.2.2 < 66 := m2
    obtain ⟨h1, -⟩ := hf q.2.2.2 q m1
    have a1 : adx b (fun i => if i = 197 then bs else if i = 198 then z else if i = 199 then t else if i < 300 then (f (i - 200)).1 else (f (i - 300)).2) (200 + q.2.2.2) = (f q.2.2.2).1 := by
      unfold adx
      rw [if_neg (by omega)]
      dsimp only
      rw [if_neg (by omega), if_neg (by omega), if_neg (by omega), if_pos (by omega), Nat.add_sub_cancel_left]
    rw [a1]
    exact vk_R.of (sref_ok hts q hq) h1
  · exact va_Zof (hts _ (List.mem_append_right _ (by unfold tables_1; exact List.mem_append_right _ (List.mem_append_right _ (List.mem_append_right _ (List.mem_append_left _ (List.mem_of_getElem? (i := 238) rfl))))))) (hts _ (List.mem_append_right _ (by unfold tables_1; exact List.mem_append_left _ (List.mem_of_getElem? (i := 3) rfl)))) ht hA
  · exact hT
  · exact va_Zof (hts _ (List.mem_append_right _ (by unfold tables_1; exact List.mem_append_right _ (List.mem_append_right _ (List.mem_append_right _ (List.mem_append_left _ (List.mem_of_getElem? (i := 45) rfl))))))) (hts _ (List.mem_append_right _ (by unfold tables_1; exact List.mem_append_left _ (List.mem_of_getElem? (i := 20) rfl)))) (va_eqt (hs _ nf_6)) hA
  · exact hz
  · exact vx_Zqof (hts _ (List.mem_append_right _ (by unfold tables_1; exact List.mem_append_right _ (List.mem_append_right _ (List.mem_append_left _ (List.mem_of_getElem? (i := 206) rfl)))))) (hts _ (List.mem_append_right _ (by unfold tables_1; exact List.mem_append_left _ (List.mem_of_getElem? (i := 16) rfl)))) (hs _ nf_4) hA
  · exact vx_Zqof (hts _ (List.mem_append_right _ (by unfold tables_1; exact List.mem_append_right _ (List.mem_append_right _ (List.mem_append_left _ (List.mem_of_getElem? (i := 208) rfl)))))) (hts _ (List.mem_append_right _ (by unfold tables_1; exact List.mem_append_left _ (List.mem_of_getElem? (i := 16) rfl)))) (hs _ nf_5) hA
  · intro q hq
    simp only [exC, List.mem_cons, List.not_mem_nil, or_false] at hq
    rcases hq with rfl | rfl | rfl | rfl
    · exact va_Nw.of rfl (hts _ (List.mem_append_right _ (by unfold tables_1; exact List.mem_append_right _ (List.mem_append_right _ (List.mem_append_left _ (List.mem_of_getElem? (i := 181) rfl))))))
    · exact va_Nw.of rfl (hts _ (List.mem_append_right _ (by unfold tables_1; exact List.mem_append_right _ (List.mem_append_right _ (List.mem_append_right _ (List.mem_append_right _ (List.mem_append_left _ (List.mem_of_getElem? (i := 58) rfl))))))))
    · exact va_Nw.of rfl (hts _ (List.mem_append_right _ (by unfold tables_1; exact List.mem_append_right _ (List.mem_append_right _ (List.mem_append_right _ (List.mem_append_right _ (List.mem_append_right _ (List.mem_append_left _ (List.mem_of_getElem? (i := 49) rfl)))))))))
    · exact va_Nw.of rfl (hts _ (List.mem_append_right _ (by unfold tables_1; exact List.mem_append_right _ (List.mem_append_right _ (List.mem_append_right _ (List.mem_append_right _ (List.mem_append_right _ (List.mem_append_right _ (List.mem_append_left _ (List.mem_of_getElem? (i := 43) rfl))))))))))
  · intro x hx
    simp only [exD, List.mem_cons, List.not_mem_nil, or_false] at hx
    rcases hx with rfl | rfl | rfl
    · exact va_Nw.of rfl (hts _ (List.mem_append_right _ (by unfold tables_1; exact List.mem_append_right _ (List.mem_append_right _ (List.mem_append_left _ (List.mem_of_getElem? (i := 183) rfl))))))
    · exact va_Nw.of rfl (hts _ (List.mem_append_right _ (by unfold tables_1; exact List.mem_append_right _ (List.mem_append_right _ (List.mem_append_left _ (List.mem_of_getElem? (i := 185) rfl))))))
    · exact va_Nw.of rfl (hts _ (List.mem_append_right _ (by unfold tables_1; exact List.mem_append_right _ (List.mem_append_right _ (List.mem_append_left _ (List.mem_of_getElem? (i := 187) rfl))))))
  · intro q hq
    simp only [ncL, List.mem_cons, List.not_mem_nil, or_false] at hq
    rcases hq with rfl | rfl | rfl | rfl | rfl | rfl | rfl | rfl | rfl | rfl | rfl | rfl
    · exact va_Nc.of (hs _ nf_54)
    · exact va_Nc.of (hs _ nf_70)
    · exact va_Nc.of (hs _ nf_86)
    · exact va_Nc.of (hs _ nf_38)
    · exact va_Nc.of (hs _ nf_71)
    · exact va_Nc.of (hs _ nf_87)
    · exact va_Nc.of (hs _ nf_39)
    · exact va_Nc.of (hs _ nf_55)
    · exact va_Nc.of (hs _ nf_88)
    · exact va_Nc.of (hs _ nf_40)
    · exact va_Nc.of (hs _ nf_56)
    · exact va_Nc.of (hs _ nf_72)
theorem oo_start {args : Array Value} {s : State} {b bs : Nat} (hts : ∀ w ∈ lw_tbl, w.before args s = true) (hs : ∀ c ∈ nfl, c.before args s = true) (hA : ∀ a : Nat, a < s.heap.size → ¬ Ab b a) : ∃ st : Nat → Nat, st 197 = bs ∧ RO (adx b st) (Ab b) s s.heap ∧ OO b s s.heap := by
  obtain ⟨st, h1, h2⟩ := ro_start (b := b) (bs := bs) hts hs hA
  refine ⟨st, h1, h2, ?_, ?_, st, h2⟩
  · intro q hq
    simp only [nnL, List.mem_cons, List.not_mem_nil, or_false] at hq
    rcases hq with rfl | rfl | rfl | rfl
    · exact va_Nw.of rfl (hts _ (List.mem_append_right _ (by unfold tables_1; exact List.mem_append_left _ (List.mem_of_getElem? (i := 40) rfl))))
    · exact va_Nw.of rfl (hts _ (List.mem_append_right _ (by unfold tables_1; exact List.mem_append_left _ (List.mem_of_getElem? (i := 209) rfl))))
    · exact va_Nw.of rfl (hts _ (List.mem_append_right _ (by unfold tables_1; exact List.mem_append_right _ (List.mem_append_left _ (List.mem_of_getElem? (i := 158) rfl)))))
    · exact va_Nw.of rfl (hts _ (List.mem_append_right _ (by unfold tables_1; exact List.mem_append_right _ (List.mem_append_left _ (List.mem_of_getElem? (i := 181) rfl)))))
  · intro ty hty
    simp only [aoL, List.mem_cons, List.not_mem_nil, or_false] at hty
    rcases hty with rfl | rfl | rfl | rfl | rfl
    · exact va_AOT.of (hts _ (List.mem_append_right _ (by unfold tables_1; exact List.mem_append_left _ (List.mem_of_getElem? (i := 214) rfl))))
    · exact va_AOT.of (hts _ (List.mem_append_right _ (by unfold tables_1; exact List.mem_append_right _ (List.mem_append_left _ (List.mem_of_getElem? (i := 163) rfl)))))
    · exact va_AOT.of (hts _ (List.mem_append_right _ (by unfold tables_1; exact List.mem_append_right _ (List.mem_append_left _ (List.mem_of_getElem? (i := 179) rfl)))))
    · exact va_AOT.of (hts _ (List.mem_append_right _ (by unfold tables_1; exact List.mem_append_right _ (List.mem_append_left _ (List.mem_of_getElem? (i := 203) rfl)))))
    · exact va_AOT.of (hts _ (List.mem_append_right _ (by unfold tables_1; exact List.mem_append_right _ (List.mem_append_left _ (List.mem_of_getElem? (i := 204) rfl)))))
theorem cls_start {args : Array Value} {s : State} (hts : ∀ w ∈ WSG, w.before args s = true) : ∀ c : Nat, ∃ p : ClassId × (Nat → Nat), ∀ q, vwCl[c]? = some q → u_Kn s q.1 q.2.1 q.2.2 p.1 p.2 := by
  intro c
  match c with
  | 0 => exact (u_known (C := RX0) (T := TX0) (N := 6) (n := 6) hts iw_0 (hts _ lk_328)).elim fun a h => h.elim fun f h => ⟨(a, f), fun q hq => by cases Option.some.inj hq; exact h⟩
  | 1 => exact (u_known (C := RX1) (T := TX1) (N := 9) (n := 9) hts iw_1 (hts _ lk_482)).elim fun a h => h.elim fun f h => ⟨(a, f), fun q hq => by cases Option.some.inj hq; exact h⟩
  | 2 => exact (u_known (C := RX2) (T := TX2) (N := 9) (n := 9) hts iw_2 (hts _ lk_381)).elim fun a h => h.elim fun f h => ⟨(a, f), fun q hq => by cases Option.some.inj hq; exact h⟩
  | 3 => exact (u_known (C := RX3) (T := TX3) (N := 3) (n := 3) hts iw_3 (hts _ lk_362)).elim fun a h => h.elim fun f h => ⟨(a, f), fun q hq => by cases Option.some.inj hq; exact h⟩
  | 4 => exact (u_known (C := RX4) (T := TX4) (N := 4) (n := 4) hts iw_4 (hts _ lk_517)).elim fun a h => h.elim fun f h => ⟨(a, f), fun q hq => by cases Option.some.inj hq; exact h⟩
  | 5 => exact (u_known (C := RX5) (T := TX5) (N := 7) (n := 7) hts iw_5 (hts _ lk_452)).elim fun a h => h.elim fun f h => ⟨(a, f), fun q hq => by cases Option.some.inj hq; exact h⟩
  | 6 => exact (u_known (C := RX6) (T := TX6) (N := 12) (n := 12) hts iw_6 (hts _ lk_259)).elim fun a h => h.elim fun f h => ⟨(a, f), fun q hq => by cases Option.some.inj hq; exact h⟩
  | 7 => exact (u_known (C := RX7) (T := TX7) (N := 8) (n := 8) hts iw_7 (hts _ lk_419)).elim fun a h => h.elim fun f h => ⟨(a, f), fun q hq => by cases Option.some.inj hq; exact h⟩
  | 8 => exact (u_known (C := RX8) (T := TX8) (N := 16) (n := 16) hts iw_8 (hts _ lk_159)).elim fun a h => h.elim fun f h => ⟨(a, f), fun q hq => by cases Option.some.inj hq; exact h⟩
  | 9 => exact (u_known (C := RX9) (T := TX9) (N := 5) (n := 5) hts iw_9 (hts _ lk_265)).elim fun a h => h.elim fun f h => ⟨(a, f), fun q hq => by cases Option.some.inj hq; exact h⟩
  | 10 => exact (u_known (C := RX10) (T := TX10) (N := 3) (n := 3) hts iw_10 (hts _ lk_540)).elim fun a h => h.elim fun f h => ⟨(a, f), fun q hq => by cases Option.some.inj hq; exact h⟩
  | 11 => exact (u_known (C := RX11) (T := TX11) (N := 16) (n := 16) hts iw_11 (hts _ lk_151)).elim fun a h => h.elim fun f h => ⟨(a, f), fun q hq => by cases Option.some.inj hq; exact h⟩
  | 12 => exact (u_known (C := RX12) (T := TX12) (N := 39) (n := 39) hts iw_12 (hts _ lk_1654)).elim fun a h => h.elim fun f h => ⟨(a, f), fun q hq => by cases Option.some.inj hq; exact h⟩
  | c + 13 => exact ⟨(0, fun _ => 0), fun q hq => by simp [vwCl] at hq⟩
theorem arr_start {args : Array Value} {s : State} (hts : ∀ w ∈ lw_tbl, w.before args s = true) : ∀ k : Nat, ∃ c : ClassId, ∀ ty, ([.int, .byte, .boolean, .long, .array .int, .array .long, .object "RainWishes$Tray", .object "RainWishes$Sky", .object "RainWishes$Book"] : List FieldType)[k]? = some ty → ArrOfT s c ty ∧ va_RA s c ty := by
  intro k
  match k with
  | 0 => 
    obtain ⟨c, k, comp, h1, h2, h3⟩ := Cond.arrayClass_spec (type := .int) (hts _ (List.mem_append_right _ (by unfold tables_1; exact List.mem_append_left _ (List.mem_of_getElem? (i := 137) rfl))))
    exact ⟨c, fun ty hty => by cases Option.some.inj hty; exact ⟨fun N z => ⟨(fun k h => by cases h), k, h2, comp, h3⟩, h1⟩⟩
  | 1 => 
    obtain ⟨c, k, comp, h1, h2, h3⟩ := Cond.arrayClass_spec (type := .byte) (hts _ (List.mem_append_right _ (by unfold tables_1; exact List.mem_append_left _ (List.mem_of_getElem? (i := 135) rfl))))
    exact ⟨c, fun ty hty => by cases Option.some.inj hty; exact ⟨fun N z => ⟨(fun k h => by cases h), k, h2, comp, h3⟩, h1⟩⟩
  | 2 => 
    obtain ⟨c, k, comp, h1, h2, h3⟩ := Cond.arrayClass_spec (type := .boolean) (hts _ (List.mem_append_right _ (by unfold tables_1; exact List.mem_append_left _ (List.mem_of_getElem? (i := 136) rfl))))
    exact ⟨c, fun ty hty => by cases Option.some.inj hty; exact ⟨fun N z => ⟨(fun k h => by cases h), k, h2, comp, h3⟩, h1⟩⟩
  | 3 => 
    obtain ⟨c, k, comp, h1, h2, h3⟩ := Cond.arrayClass_spec (type := .long) (hts _ (List.mem_append_right _ (by unfold tables_1; exact List.mem_append_right _ (List.mem_append_left _ (List.mem_of_getElem? (i := 177) rfl)))))
    exact ⟨c, fun ty hty => by cases Option.some.inj hty; exact ⟨fun N z => ⟨(fun k h => by cases h), k, h2, comp, h3⟩, h1⟩⟩
  | 4 => 
    obtain ⟨comp, c, k, h1, h2, h3, h4⟩ := Cond.arrayOver_specA (t := .int) (hts _ (List.mem_append_right _ (by unfold tables_1; exact List.mem_append_left _ (List.mem_of_getElem? (i := 214) rfl))))
    exact ⟨c, fun ty hty => by cases Option.some.inj hty; exact ⟨fun N z => ⟨(fun k h => by cases h), k, h2, comp, h3⟩, h4⟩⟩
  | 5 => 
    obtain ⟨comp, c, k, h1, h2, h3, h4⟩ := Cond.arrayOver_specA (t := .long) (hts _ (List.mem_append_right _ (by unfold tables_1; exact List.mem_append_right _ (List.mem_append_left _ (List.mem_of_getElem? (i := 163) rfl)))))
    exact ⟨c, fun ty hty => by cases Option.some.inj hty; exact ⟨fun N z => ⟨(fun k h => by cases h), k, h2, comp, h3⟩, h4⟩⟩
  | 6 => 
    obtain ⟨comp, c, k, h1, h9, h2, h3, h4⟩ := Cond.arrayOver_spec (n := "RainWishes$Tray") (hts _ (List.mem_append_right _ (by unfold tables_1; exact List.mem_append_right _ (List.mem_append_left _ (List.mem_of_getElem? (i := 179) rfl)))))
    exact ⟨c, fun ty hty => by cases Option.some.inj hty; exact ⟨fun N z => ⟨(fun k h => by cases h), k, h2, comp, h3⟩, k, comp, h2, h3, h1, h4⟩⟩
  | 7 => 
    obtain ⟨comp, c, k, h1, h9, h2, h3, h4⟩ := Cond.arrayOver_spec (n := "RainWishes$Sky") (hts _ (List.mem_append_right _ (by unfold tables_1; exact List.mem_append_right _ (List.mem_append_left _ (List.mem_of_getElem? (i := 203) rfl)))))
    exact ⟨c, fun ty hty => by cases Option.some.inj hty; exact ⟨fun N z => ⟨(fun k h => by cases h), k, h2, comp, h3⟩, k, comp, h2, h3, h1, h4⟩⟩
  | 8 => 
    obtain ⟨comp, c, k, h1, h9, h2, h3, h4⟩ := Cond.arrayOver_spec (n := "RainWishes$Book") (hts _ (List.mem_append_right _ (by unfold tables_1; exact List.mem_append_right _ (List.mem_append_left _ (List.mem_of_getElem? (i := 204) rfl)))))
    exact ⟨c, fun ty hty => by cases Option.some.inj hty; exact ⟨fun N z => ⟨(fun k h => by cases h), k, h2, comp, h3⟩, k, comp, h2, h3, h1, h4⟩⟩
  | k + 9 => exact ⟨0, fun ty hty => by simp at hty⟩
theorem k_start {args : Array Value} {s : State} (hts : ∀ w ∈ lw_tbl, w.before args s = true) : ∃ (D : va_G) (cA : Nat → ClassId), nc cA = NC ∧ va_K D vwCl (tyl cA) s := by
  have hg : ∀ w ∈ WSG, w.before args s = true := fun w hw => hts w (List.mem_filter.mp hw).1
  obtain ⟨f, hf⟩ := Classical.axiomOfChoice (cls_start hg)
  obtain ⟨g, hg2⟩ := Classical.axiomOfChoice (arr_start hts)
  refine ⟨(fun c => (f c).1, fun c => (f c).2), fun k => if k = 23 then 0 else g (k - 13), rfl, fun c q hq => hf c q hq, ?_⟩
  intro k q hq
  match k, hq with
  | 0, hq => cases Option.some.inj hq; exact hg2 0 _ rfl
  | 1, hq => cases Option.some.inj hq; exact hg2 1 _ rfl
  | 2, hq => cases Option.some.inj hq; exact hg2 2 _ rfl
  | 3, hq => cases Option.some.inj hq; exact hg2 3 _ rfl
  | 4, hq => cases Option.some.inj hq; exact hg2 4 _ rfl
  | 5, hq => cases Option.some.inj hq; exact hg2 5 _ rfl
  | 6, hq => cases Option.some.inj hq; exact hg2 6 _ rfl
  | 7, hq => cases Option.some.inj hq; exact hg2 7 _ rfl
  | 8, hq => cases Option.some.inj hq; exact hg2 8 _ rfl
  | k + 9, hq => simp [tyl] at hq
def cA1 (cA : Nat → ClassId) : Nat → ClassId := fun k => if k = 23 then 1 else cA k
theorem nc1 {cA : Nat → ClassId} : nc (cA1 cA) = NC + 1 := rfl
theorem tyl1 {cA : Nat → ClassId} : tyl (cA1 cA) = tyl cA := rfl
theorem cA1_o {cA : Nat → ClassId} {k : Nat} (hk : k < 23) : cA1 cA k = cA k := if_neg (by omega)
/-- the references as the constructors have laid them -/
def RFok (n : Nat) (Q : RF) : Prop := ∀ i, i < n → ((kd i).1 < 13 → ∀ j, j < (ft (kd i).1).length → (ft (kd i).1).getD j 0 ≤ 1 ∨ Q i j = some (rt i j) ∧ rt i j < 178) ∧ (16 < (kd i).1 → (kd i).1 < 22 → ∀ j, j < (kd i).2 → Q i j = some (rt i j) ∧ rt i j < 178)
theorem adx_lt {b : Nat} {st : Nat → Nat} {i : Nat} (h : i < 178) : adx b st i = b + i := if_pos h
theorem kd_ok : ∀ i, i < 178 → (kd i).1 ≤ 22 := by decide +kernel
theorem fl_conv {b : Nat} {st : Nat → Nat} {h : PH} {Q : RF} {i : Nat} {ts : List Nat} (hq : ∀ j, j < ts.length → ts.getD j 0 ≤ 1 ∨ Q i j = some (rt i j) ∧ rt i j < 178) : flR (adb b) h Q i ts = fl (adx b st) h i ts := by
  unfold flR fl
  apply List.map_congr_left
  intro j hj
  have hj := List.mem_range.mp hj
  unfold fvR fv
  rcases hq j hj with q | ⟨q1, q2⟩
  · rcases (show ts.getD j 0 = 0 ∨ ts.getD j 0 = 1 by omega) with e | e <;> rw [e] <;> rfl
  · rw [q1]
    match ts.getD j 0 with
    | 0 => rfl
    | 1 => rfl
    | n + 2 => show va_rf (some (b + rt i j)) = .ref (adx b st (rt i j)); rw [adx_lt q2]; rfl
theorem at_conv {D : va_G} {cA : Nat → ClassId} {b n : Nat} {st : Nat → Nat} {h : PH} {Q : RF} {H : Heap} (hq : RFok n Q) (hn : n ≤ 178) {i : Nat} (hi : i < n) : va_at D vwCl (b + i, enR cA (adb b) h Q i) H ↔ va_at D vwCl (adx b st i, en cA (adx b st) h i) H := by
  rw [adx_lt (show i < 178 by omega)]
  obtain ⟨q1, q2⟩ := hq i hi
  have hk := kd_ok i (by omega)
  unfold enR en enkR enk
  by_cases c1 : (kd i).1 < 13
  · rw [if_pos c1, if_pos c1, fl_conv (st := st) (q1 c1)]
  · rw [if_neg c1, if_neg c1]
    by_cases c2 : (kd i).1 < 16
    · rw [if_pos c2, if_pos c2]
    · rw [if_neg c2, if_neg c2]
      by_cases c3 : (kd i).1 = 16
      · rw [if_pos c3, if_pos c3]
      · rw [if_neg c3, if_neg c3]
        by_cases c4 : (kd i).1 = 22
        · rw [if_pos c4, if_pos c4]
        · rw [if_neg c4, if_neg c4]
          have e : vp_cell (cA (kd i).1) ((kd i).2, .inr (.inr (.inr (.inr (fun j => (Q i j).map (adb b)))))) = vp_cell (cA (kd i).1) ((kd i).2, .inr (.inr (.inr (.inr (fun j => some (adx b st (rt i j))))))) := by
            rw [vp_cell_q, vp_cell_q]
            refine arrV_congr fun j hj => ?_
            obtain ⟨z1, z2⟩ := q2 (by omega) (by omega) j hj
            rw [z1, adx_lt z2]
            rfl
          show H[b + i]? = some (vp_cell _ _) ↔ H[b + i]? = some (vp_cell _ _)
          rw [e]
theorem wn_to {D : va_G} {cA : Nat → ClassId} {b n : Nat} {st : Nat → Nat} {h : PH} {Q : RF} {H : Heap} (hq : RFok n Q) (hnc : nc cA = n) (hn : n ≤ 178) (hN : WN D cA b n h Q H) : va_P D vwCl (wd cA (adx b st) h) H := by
  intro k q hk
  obtain ⟨hk2, rfl⟩ := wd_lt hk
  rw [hnc] at hk2
  exact (at_conv hq hn hk2).mp (hN.2 k _ (wdR_get hk2))
theorem wn_from {D : va_G} {cA : Nat → ClassId} {b n : Nat} {st : Nat → Nat} {h : PH} {Q : RF} {H : Heap} (hq : RFok n Q) (hnc : nc cA = n) (hn : n ≤ 178) (hz : H.size = b + n) (hP : va_P D vwCl (wd cA (adx b st) h) H) : WN D cA b n h Q H := by
  refine ⟨hz, fun k q hk => ?_⟩
  obtain ⟨hk2, rfl⟩ := wdR_lt hk
  exact (at_conv hq hn hk2).mpr (hP k _ (wd_get (by omega)))
theorem clay (l : Launch) (Q : RF) (h h9 : PH) (hq : RFok 177 Q) (hz9 : ZZ 177 h Q → ZZ 177 h9 Q) (ho : f_X12_laysTruths 152 h = some ((), h9)) : CTc l yX12_laysTruths cX12_laysTruths 3 (rmx 4 0 0) [.ref 152] 177 Q h 177 Q h9 0 0 := by
  intro hZ
  refine ⟨hz9 hZ, fun D cA b hnc p e ha hc hk s m args below hf happ hPc _ => ?_⟩
  obtain ⟨rfl, hN, hK, hO⟩ := hPc
  obtain ⟨st, hRO⟩ := hO.2.2
  have hinj : ∀ i j, i < nc cA → j < nc cA → adx b st i = adx b st j → i = j := fun i j hi hj e => by
    rw [hnc] at hi hj
    have hi : i < 177 := hi
    have hj : j < 177 := hj
    rw [adx_lt (by omega), adx_lt (by omega)] at e
    omega
  have hAA : ∀ q, Aa cA (adx b st) s.heap.size q → Ab b q := fun q hq => by
    rcases hq with ⟨i, hi, rfl⟩ | hq
    · rw [hnc] at hi
      have hi : i < 177 := hi
      rw [adx_lt (by omega)]
      exact Nat.le_add_right _ _
    · have := hN.1
      exact Nat.le_trans (by omega) hq
  have hRO2 : RO (adx b st) (Aa cA (adx b st) s.heap.size) s s.heap := RO.step hRO (A1 := Aa cA (adx b st) s.heap.size) (va_S.rf) hAA (State.WarmedH.refl s)
  have hargs : (([.ref 152] : List Value).map (tv (adb b))).toArray = (([.ref 152] : List Value).map (tv (adx b st))).toArray := by
    show #[Value.ref (b + 152)] = #[Value.ref (adx b st 152)]
    rw [adx_lt (by decide)]
  obtain ⟨n, o, h1, h2, h3, ⟨e1, hP, hF⟩, L, hfe, hfr⟩ := ct_X12_laysTruths l 152 h km0 D cA (adx b st) s.heap.size hinj () h9 ho p e ha hc hk s m _ below hf happ ⟨hargs, rfl, wn_to hq hnc (by decide) hN, hK, hRO2⟩ trivial
  refine ⟨n, o, h1, h2, h3, ⟨e1, wn_from hq hnc (by decide) ?_ hP, hF.1, fun q q1 q2 => hF.2 q q1 (fun z => q2 (hAA q z))⟩, L, hfe, fun q hq => hAA _ (hfr q hq)⟩
  obtain ⟨hsz, -⟩ := hN
  have h8 := hfe.2.2.2.2.1
  have h9 := hF.1
  have h8 : (stepsAlone p.tables e n s).heap.size ≤ s.heap.size + 0 := h8
  omega
/-- as SWc, the locals and the stack as they are -/
def SWl (QQ : State → Prop) (p : Program) (l : Launch) (e : Env) (R : Room) (s : State) (m : MethodId) (args : Array Value) (below : List Frame) (meth : Method) (c : Code) (cells slots nL : Nat) (D : va_G) (cA : Nat → ClassId) (b : Nat) (pc : Nat) (L : List (Nat × Value)) (st : List Value) (n : Nat) (Q : RF) (h : PH) : Prop :=
  ZZ n h Q → ∀ (H : Heap) (locs : List Loc) (ls : Array Slot), WN D cA b n h Q H → va_S (Ab b) s.heap H locs → lv_has ls nL L → W p l e R s m args below meth c H locs cells slots QQ (F0 m pc ls st)
section SCl
variable {p : Program} {l : Launch} {e : Env} {R : Room} {s : State} {m : MethodId} {args : Array Value} {below : List Frame} {meth : Method} {c : Code} {cells slots nL : Nat} {D : va_G} {cA : Nat → ClassId} {b : Nat} {own : String} {cc : ByteArray} {pc tgt n : Nat} {L L' : List (Nat × Value)} {st : List Value} {h : PH} {Q : RF} {QQ : State → Prop}
theorem sl_iconst (X : Cc p s m args c own cc nL D cA b) {z : Int} {v : Int32} (d : decode cc pc = .ok (.iconst z, 1)) (hv : Int32.ofInt z = v) (k : SWl QQ p l e R s m args below meth c cells slots nL D cA b (pc + 1) (L) (.int v :: st) (n) (Q) (h)) : SWl QQ p l e R s m args below meth c cells slots nL D cA b (pc) (L) (st) (n) (Q) (h) :=
  fun hZ H locs ls hN hS hl => lv_iconst X.1 X.2.1 d hv (k hZ H locs ls hN hS hl)
theorem sl_dup (X : Cc p s m args c own cc nL D cA b) {va : Value} (d : decode cc pc = .ok (.dup, 1)) (h1 : va.category = 1) (k : SWl QQ p l e R s m args below meth c cells slots nL D cA b (pc + 1) (L) (va :: va :: st) (n) (Q) (h)) : SWl QQ p l e R s m args below meth c cells slots nL D cA b (pc) (L) (va :: st) (n) (Q) (h) :=
  fun hZ H locs ls hN hS hl => lv_dup X.1 X.2.1 d h1 (k hZ H locs ls hN hS hl)
theorem sl_astore_n (X : Cc p s m args c own cc nL D cA b) {k4 : Fin 4} {i x : Nat} (d : decode cc pc = .ok (.astore_n k4, 1)) (hi : (k4 : Nat) = i) (hn : i < nL) (hL : (i, Value.ref x) :: L.filter (fun q => !(q.1 == i) && !(q.1 + 1 == i && q.2.category == 2)) = L') (k : SWl QQ p l e R s m args below meth c cells slots nL D cA b (pc + 1) (L') (st) (n) (Q) (h)) : SWl QQ p l e R s m args below meth c cells slots nL D cA b (pc) (L) (.ref x :: st) (n) (Q) (h) :=
  fun hZ H locs ls hN hS hl => lv_astore_n X.1 X.2.1 d hi hl hn hL (fun ls' hl' => k hZ H locs ls' hN hS hl')
theorem sl_new (X : Cc p s m args c own cc nL D cA b) {ci N ix : Nat} {C : String} {T : u_T} {ty : Nat → FieldType} (hin : ∀ w ∈ u_ws C T N, w ∈ WSG) (hcl : vwCl[ci]? = some (C, T, N)) (hty : ∀ k, k < N → parseFieldDescriptor (T k).2.2.1 = some (ty k)) (hdv : DV ci N ty) (hci : ci < 13) (w1 : Cond.classLink own ix C ∈ WSG) (w2 : Cond.instantiable C N ∈ WSG) (w3 : Cond.initialized C ∈ WSG) (hk : (kd n).1 = ci) (hcells : cells + 1 ≤ R.cells) (hslots : slots + N ≤ R.slots) (d : decode cc pc = .ok (.new ix, 3)) (k : SWl QQ p l e R s m args below meth c (cells + 1) (slots + N) nL D cA b (pc + 3) (L) (.ref (b + n) :: st) (n + 1) (Q) (h)) : SWl QQ p l e R s m args below meth c cells slots nL D cA b (pc) (L) (st) (n) (Q) (h) := by
  intro hZ H locs ls hN hS hl
  have hKn := X.2.2.2.2.2.1.1 ci _ hcl
  refine W.newcK X.1 X.2.1 X.2.2.2.1 (X.2.2.2.2.1 _ w1) (X.2.2.2.2.1 _ w2) (X.2.2.2.2.1 _ w3) rfl d hcells hslots hKn.2.1 hN.1 fun H1 kC hkC e1 z1 o1 => ?_
  have z2 : H1.size = H.size + 1 := by rw [z1, hN.1]
  have o2 : ∀ q, q < H.size → H1[q]? = H[q]? := fun q hq => o1 q (by rw [← hN.1]; exact hq)
  refine k (hZ.up (Nat.le_succ n)) H1 locs ls (WN_grow hN z2 o2 ?_) (vaS_grow hS (by omega) o2) hl
  rw [enR_obj hk hci]
  exact ⟨_, hcl, (u_born ty X.2.2.2.2.1 hin hKn hkC e1 hty).to (fun j hj => dv_of hdv (hZ n (Nat.le_refl n)) j hj)⟩
theorem sl_newO (X : Cc p s m args c own cc nL D cA b) {v : Int32} {N : Nat} (w1 : Cond.arrayClass .long ∈ WSG) (hk : kd n = (22, N)) (hn : ¬ v < 0) (hv : v.toNatClampNeg = N) (hbytes : N * componentBytes .long ≤ 536870912) (hcells : cells + 1 ≤ R.cells) (hslots : slots + N ≤ R.slots) (d : decode cc pc = .ok (.newarray .long, 2)) (k : SWl QQ p l e R s m args below meth c (cells + 1) (slots + N) nL D cA b (pc + 2) (L) (.ref (b + n) :: st) (n + 1) (Q) (h)) : SWl QQ p l e R s m args below meth c cells slots nL D cA b (pc) (L) (.int v :: st) (n) (Q) (h) := by
  intro hZ H locs ls hN hS hl
  refine va_newaK (atype := .long) X.1 X.2.1 (X.2.2.2.2.1 _ w1) rfl d rfl hn hv hbytes hcells hslots hN.1 fun H1 cA1 e1 z1 o1 hAr hNm => ?_
  have z2 : H1.size = H.size + 1 := by rw [z1, hN.1]
  have o2 : ∀ q, q < H.size → H1[q]? = H[q]? := fun q hq => o1 q (by rw [← hN.1]; exact hq)
  refine k (hZ.up (Nat.le_succ n)) H1 locs ls (WN_grow hN z2 o2 ?_) (vaS_grow hS (by omega) o2) hl
  have hc : cA1 = cA 16 := Option.some.inj (hNm.symm.trans ((X.2.2.2.2.2.1.2 3 (cA 16, .long) rfl).2))
  have hf : h.2 n = fun _ => (0 : Int64) := funext fun j => (hZ n (Nat.le_refl n) j).2.1
  rw [enR_outk hk, hf, ← hc]
  exact e1
theorem sl_callI (X : Cc p s m args c own cc nL D cA b) (hnc : nc cA = NC) {y : MethodName} {bytes : ByteArray} {maxL ix n1 mc1 ms1 : Nat} {rm : Room} {Q1 : RF} {h1 : PH} {a : Nat} (hM : CTc l y bytes maxL rm [.ref a] n Q h n1 Q1 h1 mc1 ms1) (hw1 : Cond.methodLink own ix y ∈ WSG) (hw2 : Cond.instanceMethod y ∈ WSG) (hw4 : Cond.initialized y.cls ∈ WSG) (hw5 : Cond.code y bytes maxL none ∈ WSG) (hy1 : y.name = "<init>") (hd : y.cls ≠ "java/lang/invoke/MethodHandle" ∧ y.cls ≠ "java/lang/invoke/VarHandle" ∧ (parseMethodDescriptor y.desc).map (fun d => d.parameters.length) = some 0) (hrc : rm.cells = mc1) (hrs : rm.slots = ms1) (hR : rm.frames + 1 ≤ R.frames ∧ 8 + (maxL + 11) + rm.locals ≤ R.locals) (hcs : cells + mc1 ≤ R.cells ∧ slots + ms1 ≤ R.slots) (hst : (st.map fun v => v.category).sum ≤ 8) (d : decode cc pc = .ok (.invokespecial ix, 3)) (k : SWl QQ p l e R s m args below meth c (cells + mc1) (slots + ms1) nL D cA b (pc + 3) (L) (st) (n1) (Q1) (h1)) : SWl QQ p l e R s m args below meth c cells slots nL D cA b (pc) (L) (.ref (b + a) :: st) (n) (Q) (h) := by
  intro hZ H locs ls hN hS hl
  obtain ⟨hZ1, hM⟩ := hM hZ
  intro T hT XS
  obtain ⟨v, st₀, t, T', Lc, h0, X', hLc, e1', e2', ⟨hv, hN1, hF⟩, go⟩ := (va_runI (p := p) (l := l) (e := e) (R := R) (below := below) (meth := meth) (locs := locs) (cells := cells) (slots := slots) (b := b + a) (As := []) (rest := st) (g := F0 m pc ls (.ref (b + a) :: st)) ⟨X.1, X.2.1, X.2.2.1, X.2.2.2.1, X.2.2.2.2.1⟩ (hM D cA b hnc) (cwI 0 X.2.2.2.2.1 (wsg_cons hw5) rfl hrc hrs (X.2.2.2.2.1 _ hw4) (X.2.2.2.2.1 _ hw1) (X.2.2.2.2.1 _ hw2) hy1 hd hR) ⟨preK_blind, fun U hU hW => ⟨rfl, by rw [hU]; exact hN, va_K.moved hW.alike X.2.2.2.2.2.1, by rw [hU]; exact OO.step X.2.2.2.2.2.2.2 hS hW⟩⟩ rfl rfl hl.1 rfl (lv_room hst) d ⟨hcs.1, hcs.2⟩) T hT XS
  cases hv
  obtain ⟨k1, k2, k3⟩ := vx_keep h0 e1' hS (fun q _ hq => hq) (fun q hq => hq) hLc hF
  obtain ⟨t2, a1, b1⟩ := k hZ1 T'.heap (locs ++ Lc) ls (by rw [e1']; exact hN1) k3 hl T' rfl X'
  exact ⟨t2, go t2 a1, b1⟩
end SCl
section SLo
variable {p : Program} {l : Launch} {e : Env} {R : Room} {s : State} {m : MethodId} {args : Array Value} {below : List Frame} {meth : Method} {c : Code} {cells slots nL : Nat} {D : va_G} {cA : Nat → ClassId} {ad : Nat → Nat} {A : Nat → Prop} {own : String} {cc : ByteArray} {pc tgt : Nat} {L L' : List (Nat × Value)} {st : List Value} {h : PH} {α : Type} {QQ : α → PH → State → Prop} {o o1 o2 : Option (α × PH)}
theorem so_loopL {σ : Type} {MC MS : Nat} {body : (σ → PH → Option (α × PH)) → σ → PH → Option (α × PH)} (Lf : σ → List (Nat × Value)) (B : ∀ (rec : σ → PH → Option (α × PH)) (cells slots : Nat), cells + MC ≤ R.cells → slots + MS ≤ R.slots → (∀ s1 h1, SWo QQ p l e R s m args below meth c (cells + MC) (slots + MS) nL D cA ad A (pc) (Lf s1) (st) (h1) (rec s1 h1)) → ∀ s1 h1, SWo QQ p l e R s m args below meth c cells slots nL D cA ad A (pc) (Lf s1) (st) (h1) (body rec s1 h1)) : ∀ (k cells slots : Nat), cells + k * MC ≤ R.cells → slots + k * MS ≤ R.slots → ∀ (s1 : σ) (h1 : PH), SWo QQ p l e R s m args below meth c cells slots nL D cA ad A (pc) (Lf s1) (st) (h1) (lp body k s1 h1)
  | 0, _, _, _, _, _, _ => fun _ _ e1 => by cases e1
  | k + 1, cells, slots, h1, h2, s1, hh => by
    rw [Nat.succ_mul] at h1 h2
    exact B (lp body k) cells slots (by omega) (by omega) (so_loopL Lf B k (cells + MC) (slots + MS) (by omega) (by omega)) s1 hh
end SLo
theorem dv_s11 : DV 11 16 tyX11 := by
  intro j hj
  match j, hj with
  | 0, _ => exact ⟨by decide, Or.inr (Or.inr ⟨rfl, rfl⟩)⟩
  | 1, _ => exact ⟨by decide, Or.inl ⟨rfl, rfl⟩⟩
  | 2, _ => exact ⟨by decide, Or.inr (Or.inr ⟨rfl, rfl⟩)⟩
  | 3, _ => exact ⟨by decide, Or.inr (Or.inr ⟨rfl, rfl⟩)⟩
  | 4, _ => exact ⟨by decide, Or.inr (Or.inr ⟨rfl, rfl⟩)⟩
  | 5, _ => exact ⟨by decide, Or.inr (Or.inr ⟨rfl, rfl⟩)⟩
  | 6, _ => exact ⟨by decide, Or.inr (Or.inr ⟨rfl, rfl⟩)⟩
  | 7, _ => exact ⟨by decide, Or.inr (Or.inr ⟨rfl, rfl⟩)⟩
  | 8, _ => exact ⟨by decide, Or.inr (Or.inr ⟨rfl, rfl⟩)⟩
  | 9, _ => exact ⟨by decide, Or.inr (Or.inr ⟨rfl, rfl⟩)⟩
  | 10, _ => exact ⟨by decide, Or.inr (Or.inr ⟨rfl, rfl⟩)⟩
  | 11, _ => exact ⟨by decide, Or.inr (Or.inr ⟨rfl, rfl⟩)⟩
  | 12, _ => exact ⟨by decide, Or.inr (Or.inr ⟨rfl, rfl⟩)⟩
  | 13, _ => exact ⟨by decide, Or.inr (Or.inr ⟨rfl, rfl⟩)⟩
  | 14, _ => exact ⟨by decide, Or.inr (Or.inr ⟨rfl, rfl⟩)⟩
  | 15, _ => exact ⟨by decide, Or.inr (Or.inr ⟨rfl, rfl⟩)⟩
  | j + 16, hj => exact absurd hj (by omega)
theorem dv_s12 : DV 12 39 tyX12 := by
  intro j hj
  match j, hj with
  | 0, _ => exact ⟨by decide, Or.inr (Or.inr ⟨rfl, rfl⟩)⟩
  | 1, _ => exact ⟨by decide, Or.inr (Or.inr ⟨rfl, rfl⟩)⟩
  | 2, _ => exact ⟨by decide, Or.inr (Or.inr ⟨rfl, rfl⟩)⟩
  | 3, _ => exact ⟨by decide, Or.inr (Or.inr ⟨rfl, rfl⟩)⟩
  | 4, _ => exact ⟨by decide, Or.inr (Or.inr ⟨rfl, rfl⟩)⟩
  | 5, _ => exact ⟨by decide, Or.inl ⟨rfl, rfl⟩⟩
  | 6, _ => exact ⟨by decide, Or.inr (Or.inr ⟨rfl, rfl⟩)⟩
  | 7, _ => exact ⟨by decide, Or.inl ⟨rfl, rfl⟩⟩
  | 8, _ => exact ⟨by decide, Or.inl ⟨rfl, rfl⟩⟩
  | 9, _ => exact ⟨by decide, Or.inl ⟨rfl, rfl⟩⟩
  | 10, _ => exact ⟨by decide, Or.inl ⟨rfl, rfl⟩⟩
  | 11, _ => exact ⟨by decide, Or.inl ⟨rfl, rfl⟩⟩
  | 12, _ => exact ⟨by decide, Or.inl ⟨rfl, rfl⟩⟩
  | 13, _ => exact ⟨by decide, Or.inl ⟨rfl, rfl⟩⟩
  | 14, _ => exact ⟨by decide, Or.inl ⟨rfl, rfl⟩⟩
  | 15, _ => exact ⟨by decide, Or.inl ⟨rfl, rfl⟩⟩
  | 16, _ => exact ⟨by decide, Or.inl ⟨rfl, rfl⟩⟩
  | 17, _ => exact ⟨by decide, Or.inl ⟨rfl, rfl⟩⟩
  | 18, _ => exact ⟨by decide, Or.inr (Or.inr ⟨rfl, rfl⟩)⟩
  | 19, _ => exact ⟨by decide, Or.inr (Or.inr ⟨rfl, rfl⟩)⟩
  | 20, _ => exact ⟨by decide, Or.inr (Or.inr ⟨rfl, rfl⟩)⟩
  | 21, _ => exact ⟨by decide, Or.inr (Or.inr ⟨rfl, rfl⟩)⟩
  | 22, _ => exact ⟨by decide, Or.inr (Or.inr ⟨rfl, rfl⟩)⟩
  | 23, _ => exact ⟨by decide, Or.inr (Or.inr ⟨rfl, rfl⟩)⟩
  | 24, _ => exact ⟨by decide, Or.inr (Or.inr ⟨rfl, rfl⟩)⟩
  | 25, _ => exact ⟨by decide, Or.inr (Or.inr ⟨rfl, rfl⟩)⟩
  | 26, _ => exact ⟨by decide, Or.inr (Or.inr ⟨rfl, rfl⟩)⟩
  | 27, _ => exact ⟨by decide, Or.inr (Or.inr ⟨rfl, rfl⟩)⟩
  | 28, _ => exact ⟨by decide, Or.inr (Or.inr ⟨rfl, rfl⟩)⟩
  | 29, _ => exact ⟨by decide, Or.inl ⟨rfl, rfl⟩⟩
  | 30, _ => exact ⟨by decide, Or.inr (Or.inr ⟨rfl, rfl⟩)⟩
  | 31, _ => exact ⟨by decide, Or.inr (Or.inr ⟨rfl, rfl⟩)⟩
  | 32, _ => exact ⟨by decide, Or.inr (Or.inr ⟨rfl, rfl⟩)⟩
  | 33, _ => exact ⟨by decide, Or.inl ⟨rfl, rfl⟩⟩
  | 34, _ => exact ⟨by decide, Or.inl ⟨rfl, rfl⟩⟩
  | 35, _ => exact ⟨by decide, Or.inr (Or.inr ⟨rfl, rfl⟩)⟩
  | 36, _ => exact ⟨by decide, Or.inr (Or.inr ⟨rfl, rfl⟩)⟩
  | 37, _ => exact ⟨by decide, Or.inr (Or.inr ⟨rfl, rfl⟩)⟩
  | 38, _ => exact ⟨by decide, Or.inr (Or.inr ⟨rfl, rfl⟩)⟩
  | j + 39, hj => exact absurd hj (by omega)
def hz0 : PH := (fun _ _ => 0, fun _ _ => 0)
def Qz0 : RF := fun _ _ => none
def Q11 : RF := q_X11_init Qz0
def Q12 : RF := q_X12_init Q11
def h11 : PH := h_X11_init hz0
def h12 : PH := h_X12_init h11
theorem zz0 : ZZ 0 hz0 Qz0 := fun _ _ _ => ⟨rfl, rfl, rfl⟩
theorem rf_177 : RFok 177 Q12 := by
  have h : ∀ i, i < 177 → ((kd i).1 < 13 → ∀ j, j < (ft (kd i).1).length → (ft (kd i).1).getD j 0 ≤ 1 ∨ Q12 i j = some (rt i j) ∧ rt i j < 178) ∧ (16 < (kd i).1 → (kd i).1 < 22 → ∀ j, j < (kd i).2 → Q12 i j = some (rt i j) ∧ rt i j < 178) := by decide +kernel
  exact h
theorem rf_178 : RFok 178 Q12 := by
  intro i hi
  by_cases h : i < 177
  · exact rf_177 i h
  · have : i = 177 := by omega
    subst this
    have e : (kd 177).1 = 22 := by decide +kernel
    rw [e]
    exact ⟨fun q => absurd q (by decide), fun _ q => absurd q (by decide)⟩
set_option maxHeartbeats 8000000 in
set_option maxRecDepth 100000 in
theorem start_of (h9 : PH) (ho : f_X12_laysTruths 152 h12 = some ((), h9)) (hz9 : ZZ 177 h9 Q12) (hp : ∀ (xs : Nat → Int32) (L : Nat), L ≤ 3072 → ∃ h', lp (b_law xs L) 513 0 h9 = some (1, h'))
    {p : Program} {e : Env} {s : State} {m : MethodId} {below : List Frame} {meth : Method} {c : Code} (l : Launch) (hflags : l.flags = flags0) {b L : Nat} {xs : Nat → Int32} (hL : L ≤ 3072) (C0 : lw_At p s m meth c b L xs) : W p l e room_1 s m #[Value.ref b] below meth c s.heap [] 0 0 (lw_Z below #[Value.ref b] s) (entryFrame m ([Value.ref b] : List Value).toArray 8) := by
  obtain ⟨hx, hb, hr, hml, hown, hts, hX, hbl, hlocks, hgv⟩ := id C0
  have hlt : l.stackTraces = false := by
    unfold Launch.stackTraces
    rw [hflags]
    decide +kernel
  have hs : ∀ c ∈ nfl, c.before #[Value.ref b] s = true := flat_of_before _ hgv
  have hg : ∀ w ∈ WSG, w.before #[Value.ref b] s = true := fun w hw => hts w (List.mem_filter.mp hw).1
  have hAb : ∀ a : Nat, a < s.heap.size → ¬ Ab s.heap.size a := fun a h1 h2 => Nat.not_le.mpr h1 h2
  obtain ⟨D, cA, hnc, hK⟩ := k_start hts
  obtain ⟨st, hst, hRO, hOO⟩ := oo_start (b := s.heap.size) (bs := b) hts hs hAb
  have X : Cc p s m #[Value.ref b] c RL cL_law 8 D cA s.heap.size := ⟨hx, hb, hml, hown, hg, hK, Nat.le_refl _, hOO⟩
  have hl := lv_entry ([.ref b]) (n := 8) (Nat.le_of_ble_eq_true rfl)
  rw [lg_entry_eq]
  generalize (lg_sl ([.ref b]) ++ List.replicate (8 - (lg_sl ([.ref b])).length) Slot.unset).toArray = ls at hl ⊢
  have hl : lv_has ls 8 [(0, .ref b)] := hl
  have hN0 : WN D cA s.heap.size 0 hz0 Qz0 s.heap := ⟨rfl, fun k q h => by simp [wdR] at h⟩
  suffices K : SWl (fun t => lw_Z below #[Value.ref b] s t) p l e room_1 s m #[Value.ref b] below meth c 0 0 8 D cA s.heap.size 0 [(0, .ref b)] [] 0 Qz0 hz0 from K zz0 s.heap [] ls hN0 va_S.rf hl
  refine sl_new (ci := 11) (N := 16) X iw_11 rfl tyX11_ok dv_s11 (by decide) lk_150 lk_151 lk_121 (by decide +kernel) (Nat.le_of_ble_eq_true rfl) (Nat.le_of_ble_eq_true rfl) (dkL_law_0 (0, .new 8, 3) (pgm 0 rfl)) ?_
  refine sl_dup X (dkL_law_0 (3, .dup, 1) (pgm 1 rfl)) rfl ?_
  refine sl_callI (a := 0) X hnc (cc_X11_init l Qz0 hz0) lk_152 lk_153 lk_121 lk_154 rfl (by decide +kernel) rfl rfl ⟨Nat.le_of_ble_eq_true rfl, Nat.le_of_ble_eq_true rfl⟩ ⟨Nat.le_of_ble_eq_true rfl, Nat.le_of_ble_eq_true rfl⟩ (Nat.le_of_ble_eq_true rfl) (dkL_law_0 (4, .invokespecial 129, 3) (pgm 2 rfl)) ?_
  refine sl_astore_n (i := 1) (L' := [(1, .ref (s.heap.size + 0)), (0, .ref b)]) X (dkL_law_0 (7, .astore_n 1, 1) (pgm 3 rfl)) rfl (by decide) rfl ?_
  refine sl_new (ci := 12) (N := 39) X iw_12 rfl tyX12_ok dv_s12 (by decide) lk_1653 lk_1654 lk_134 (by decide +kernel) (Nat.le_of_ble_eq_true rfl) (Nat.le_of_ble_eq_true rfl) (dkL_law_0 (8, .new 130, 3) (pgm 4 rfl)) ?_
  refine sl_dup X (dkL_law_0 (11, .dup, 1) (pgm 5 rfl)) rfl ?_
  refine sl_callI (a := 152) X hnc (cc_X12_init l Q11 h11 h9 (clay l Q12 h12 h9 rf_177 (fun _ => hz9) ho)) lk_1655 lk_1656 lk_134 lk_1657 rfl (by decide +kernel) rfl rfl ⟨Nat.le_of_ble_eq_true rfl, Nat.le_of_ble_eq_true rfl⟩ ⟨Nat.le_of_ble_eq_true rfl, Nat.le_of_ble_eq_true rfl⟩ (Nat.le_of_ble_eq_true rfl) (dkL_law_0 (12, .invokespecial 132, 3) (pgm 6 rfl)) ?_
  refine sl_astore_n (i := 2) (L' := [(2, .ref (s.heap.size + 152)), (1, .ref (s.heap.size + 0)), (0, .ref b)]) X (dkL_law_0 (15, .astore_n 2, 1) (pgm 7 rfl)) rfl (by decide) rfl ?_
  refine sl_iconst (v := (1 : Int32)) X (dkL_law_0 (16, .iconst 1, 1) (pgm 8 rfl)) (by decide) ?_
  refine sl_newO (N := 1) X lk_537 (by decide +kernel) (by decide) (by decide) (Nat.le_of_ble_eq_true rfl) (Nat.le_of_ble_eq_true rfl) (Nat.le_of_ble_eq_true rfl) (dkL_law_0 (17, .newarray .long, 2) (pgm 9 rfl)) ?_
  refine sl_astore_n (i := 3) (L' := [(3, .ref (s.heap.size + 177)), (2, .ref (s.heap.size + 152)), (1, .ref (s.heap.size + 0)), (0, .ref b)]) X (dkL_law_0 (19, .astore_n 3, 1) (pgm 10 rfl)) rfl (by decide) rfl ?_
  intro hZ H locs ls2 hN hS hl2
  have hN1 : va_P D vwCl (wd (cA1 cA) (adx s.heap.size st) h9) H := by
    refine wn_to (n := 178) rf_178 nc1 (by decide) ⟨hN.1, fun k q hk => ?_⟩
    obtain ⟨hk2, rfl⟩ := wdR_lt hk
    have := hN.2 k _ (wdR_get hk2)
    have hk3 := kd_ok k hk2
    have e : enR (cA1 cA) (adb s.heap.size) h9 Q12 k = enR cA (adb s.heap.size) h9 Q12 k := by
      unfold enR enkR
      rw [cA1_o (show (kd k).1 < 23 by omega), cA1_o (show 16 < 23 by decide)]
    rw [e]
    exact this
  have hinj : ∀ i j, i < nc (cA1 cA) → j < nc (cA1 cA) → adx s.heap.size st i = adx s.heap.size st j → i = j := fun i j hi hj e => by
    have hi : i < 178 := hi
    have hj : j < 178 := hj
    rw [adx_lt hi, adx_lt hj] at e
    omega
  have XX : Cx p s m #[Value.ref b] c RL cL_law 8 D (cA1 cA) (adx s.heap.size st) (Ab s.heap.size) := ⟨hx, hb, hml, hown, hg, hK, hinj, fun i hi => by
    have hi : i < 178 := hi
    rw [adx_lt hi]
    exact Nat.le_add_right _ _, fun q hq => hq, hRO⟩
  have h197 : adx s.heap.size st 197 = b := hst
  obtain ⟨hf, hpf⟩ := hp xs L hL
  have K2 : SWo (QL below #[Value.ref b] s) p l e room_1 s m #[Value.ref b] below meth c 178 80227 8 D (cA1 cA) (adx s.heap.size st) (Ab s.heap.size) 20 [(3, .ref NC), (2, .ref 152), (1, .ref 0), (0, .ref 197)] [] h9 (lp (b_law xs L) 513 0 h9) := by
    refine so_iconst (v := (0 : Int32)) XX (dkL_law_0 (20, .iconst 0, 1) (pgm 11 rfl)) (by decide) ?_
    refine so_istore (i := 4) (g := fun y => lp (b_law xs L) 513 y h9) XX (dkL_law_0 (21, .istore 4, 2) (pgm 12 rfl)) (by decide) (Lf := fun y => [(4, .int y), (3, .ref NC), (2, .ref 152), (1, .ref 0), (0, .ref 197)]) (fun _ => rfl) (fun y => ?_)
    refine so_pick (L' := [(0, .ref 197), (1, .ref 0), (2, .ref 152), (3, .ref NC), (4, .int y)]) XX [4, 3, 2, 1, 0] rfl ?_
    exact so_loopL (MC := 3) (MS := 18) (Lf := fun i => [(0, .ref 197), (1, .ref 0), (2, .ref 152), (3, .ref NC), (4, .int i)]) (fun rec cells slots hC hS hrec i hb => law_body hlt XX nc1 ⟨b, rfl⟩ (fun q hq => hq) hr hlocks (by rw [h197]; exact hX) (by rw [h197]; exact hbl) (by rw [h197]; exact hAb b hbl) rec cells slots hC hS hrec i hb) 513 178 80227 (by decide) (by decide) y h9
  have e3 : ([(3, .ref NC), (2, .ref 152), (1, .ref 0), (0, .ref 197)] : List (Nat × Value)).map (tq (adx s.heap.size st)) = [(3, .ref (s.heap.size + 177)), (2, .ref (s.heap.size + 152)), (1, .ref (s.heap.size + 0)), (0, .ref b)] := by
    simp only [List.map_cons, List.map_nil, tq, tv]
    rw [adx_lt (show NC < 178 by decide), adx_lt (show 152 < 178 by decide), adx_lt (show 0 < 178 by decide), h197]
    rfl
  intro T hT XS
  obtain ⟨t, a1, b1⟩ := K2 1 hf hpf H locs ls2 hN1 hS (by rw [e3]; exact hl2) T hT XS
  exact ⟨t, a1, b1 rfl⟩
