/-- Math.max of two ints, by the kit's row -/
theorem V.mmax {M : XM} {d : Nat} {b : Nat × Nat} {pc : Nat} {L : List (Option Value)} {st : List Value} {S : XS} {im : XI} {Q : Option Value → XS → XI → Prop} {idx : Nat} {x y : Int32} (hL : L.length = M.2.2.1) (hlk : Cond.methodLink M.1.cls idx Lib.Math.max.name ∈ xgood) (hsta : Cond.static Lib.Math.max.name ∈ xgood) (hini : Cond.initialized "java/lang/Math" ∈ xgood) (hcode : Cond.code Lib.Math.max.name Lib.Math.max.code 2 (some .int) ∈ xgood) (hst : Nat.ble (st.map fun v => v.category).sum 8 = true)
    (hd : decode M.2.1 pc = .ok (.invokestatic idx, 3)) (k : V M (d + 1) b (pc + 3) L (.int (if x < y then y else x) :: st) S im Q) : V M (d + 1) b pc L (.int y :: .int x :: st) S im Q := by
  intro p l e R s m args below meth c D E A ads H locs cells slots n0 ls C hR hS hn hb1 hb2 hl
  have hw : ∀ w, w ∈ xgood → w.before args s = true := fun w h => C.1.2.2.2.2 w (List.mem_cons_of_mem _ h)
  have hx := xcats ads hst
  exact va_mmax C.1.1 C.1.2.1 (by rw [C.1.2.2.1, ← hL]; exact hl.1.symm) C.1.2.2.2.1 (hw _ hlk) (hw _ hsta) (hw _ hini) (hw _ hcode) (by rw [C.2.2.2.2.1]; omega) (by rw [C.2.2.2.2.2]; omega) (by omega) (by omega) hd (k p l e R s m args below meth c D E A ads H locs cells slots n0 ls C hR hS hn hb1 hb2 hl)
theorem V.mmin {M : XM} {d : Nat} {b : Nat × Nat} {pc : Nat} {L : List (Option Value)} {st : List Value} {S : XS} {im : XI} {Q : Option Value → XS → XI → Prop} {idx : Nat} {x y : Int32} (hL : L.length = M.2.2.1) (hlk : Cond.methodLink M.1.cls idx Lib.Math.min.name ∈ xgood) (hsta : Cond.static Lib.Math.min.name ∈ xgood) (hini : Cond.initialized "java/lang/Math" ∈ xgood) (hcode : Cond.code Lib.Math.min.name Lib.Math.min.code 2 (some .int) ∈ xgood) (hst : Nat.ble (st.map fun v => v.category).sum 8 = true)
    (hd : decode M.2.1 pc = .ok (.invokestatic idx, 3)) (k : V M (d + 1) b (pc + 3) L (.int (if y < x then y else x) :: st) S im Q) : V M (d + 1) b pc L (.int y :: .int x :: st) S im Q := by
  intro p l e R s m args below meth c D E A ads H locs cells slots n0 ls C hR hS hn hb1 hb2 hl
  have hw : ∀ w, w ∈ xgood → w.before args s = true := fun w h => C.1.2.2.2.2 w (List.mem_cons_of_mem _ h)
  have hx := xcats ads hst
  exact va_mmin C.1.1 C.1.2.1 (by rw [C.1.2.2.1, ← hL]; exact hl.1.symm) C.1.2.2.2.1 (hw _ hlk) (hw _ hsta) (hw _ hini) (hw _ hcode) (by rw [C.2.2.2.2.1]; omega) (by rw [C.2.2.2.2.2]; omega) (by omega) (by omega) hd (k p l e R s m args below meth c D E A ads H locs cells slots n0 ls C hR hS hn hb1 hb2 hl)
theorem xmax_c : Cond.code Lib.Math.max.name Lib.Math.max.code 2 (some .int) ∈ xgood := vJ9_max_7cf53.1
theorem xmin_c : Cond.code Lib.Math.min.name Lib.Math.min.code 2 (some .int) ∈ xgood := vJ9_min_7cf53.1
theorem xmath_i : Cond.initialized "java/lang/Math" ∈ xgood := vJ9_max_7cf53.2.1
theorem xmax_s : Cond.static Lib.Math.max.name ∈ xgood := sJ9_max_7cf53
theorem xmin_s : Cond.static Lib.Math.min.name ∈ xgood := sJ9_min_7cf53
theorem lmX2_124 : Cond.methodLink RX2 124 Lib.Math.max.name ∈ xgood := xg 567 (by decide +kernel) rfl
theorem lmX3_44 : Cond.methodLink RX3 44 Lib.Math.min.name ∈ xgood := xg 361 (by decide +kernel) rfl
theorem lmX3_49 : Cond.methodLink RX3 49 Lib.Math.max.name ∈ xgood := xg 364 (by decide +kernel) rfl
theorem lmX6_7 : Cond.methodLink RX6 7 Lib.Math.max.name ∈ xgood := xg 45 (by decide +kernel) rfl
theorem qX2_leftBehindTick_25 {d : Nat} {b : Nat × Nat} {bo : Bool} {im : XI} {Q : Option Value → XS → XI → Prop} {l1 : Nat} {l2 : Int32} {l3 : Int32} {l4 : Int32} {s0 : Int32} {s1 : Int32} {s2 : Int32} (k : V mX2_leftBehindTick (d + 1) b 29 [some (.ref 1), some (.ref l1), some (.int l2), some (.int l3), some (.int l4)] [.int (if s0 < s1 - s2 then s1 - s2 else s0)] (SC bo) im Q) : V mX2_leftBehindTick (d + 1) b 25 [some (.ref 1), some (.ref l1), some (.int l2), some (.int l3), some (.int l4)] [.int s2, .int s1, .int s0] (SC bo) im Q := by
  refine V.isub dX2_leftBehindTick_25 ?_
  refine V.mmax rfl lmX2_124 xmax_s xmath_i xmax_c rfl dX2_leftBehindTick_26 ?_
  exact k
theorem qX6_init_4 {d : Nat} {b : Nat × Nat} {S : XS} {im : XI} {Q : Option Value → XS → XI → Prop} {l0 : Nat} {l1 : Int32} (k : V mX6_init (d + 1) b 10 [some (.ref l0), some (.int l1)] [.int (if (0 : Int32) < l1 then l1 else 0), .ref l0] S im Q) : V mX6_init (d + 1) b 4 [some (.ref l0), some (.int l1)] [] S im Q := by
  refine V.aload_n dX6_init_4 rfl rfl ?_
  refine V.iconst (v := 0) dX6_init_5 (by decide) ?_
  refine V.iload_n dX6_init_6 rfl rfl ?_
  refine V.mmax rfl lmX6_7 xmax_s xmath_i xmax_c rfl dX6_init_7 ?_
  exact k
theorem qX3_held {d : Nat} {im : XI} {S : XS} {v hi : Int32} (h0 : 0 ≤ hi) : SpI mX3_held (d + 1) [.int v, .int hi] S im (fun x im' => x = held0 v 0 hi ∧ im = im') := by
  refine SpI.of [some (.int v), some (.int hi)] rfl (by decide) rfl (fun Q hQ => ?_)
  refine V.iconst (v := 0) dX3_held_0 (by decide) ?_
  refine V.iload_n dX3_held_1 rfl rfl ?_
  refine V.iload_n dX3_held_2 rfl rfl ?_
  refine V.mmin rfl lmX3_44 xmin_s xmath_i xmin_c rfl dX3_held_3 ?_
  refine V.mmax rfl lmX3_49 xmax_s xmath_i xmax_c rfl dX3_held_6 ?_
  refine V.iret rfl dX3_held_9 ?_
  refine hQ _ _ ⟨?_, rfl⟩
  unfold held0
  simp only [i_le, i_lt] at *
  have e0 : (0 : Int32).toInt = 0 := rfl
  (repeat' split) <;> first | rfl | (exfalso; omega) | (rw [i_eq]; omega)
