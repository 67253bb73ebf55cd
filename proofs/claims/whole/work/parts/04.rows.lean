theorem V.iconst {M : XM} {d : Nat} {b : Nat × Nat} {pc : Nat} {L : List (Option Value)} {st : List Value} {S : XS} {im : XI} {Q : Option Value → XS → XI → Prop} {n : Int} {v : Int32} (hd : decode M.2.1 pc = .ok (.iconst n, 1)) (hv : Int32.ofInt n = v) (k : V M d b (pc + 1) L (.int v :: st) S im Q) : V M d b pc L st S im Q := by
  intro p l e R s m args below meth c D E A ads H locs cells slots n0 ls C hR hS hn hb1 hb2 hl
  exact lv_iconst C.1.1 C.1.2.1 hd hv (k p l e R s m args below meth c D E A ads H locs cells slots n0 ls C hR hS hn hb1 hb2 hl)
theorem V.bipush {M : XM} {d : Nat} {b : Nat × Nat} {pc : Nat} {L : List (Option Value)} {st : List Value} {S : XS} {im : XI} {Q : Option Value → XS → XI → Prop} {n : Int} {v : Int32} (hd : decode M.2.1 pc = .ok (.bipush n, 2)) (hv : (Int8.ofInt n).toInt32 = v) (k : V M d b (pc + 2) L (.int v :: st) S im Q) : V M d b pc L st S im Q := by
  intro p l e R s m args below meth c D E A ads H locs cells slots n0 ls C hR hS hn hb1 hb2 hl
  exact lv_bipush C.1.1 C.1.2.1 hd hv (k p l e R s m args below meth c D E A ads H locs cells slots n0 ls C hR hS hn hb1 hb2 hl)
theorem V.sipush {M : XM} {d : Nat} {b : Nat × Nat} {pc : Nat} {L : List (Option Value)} {st : List Value} {S : XS} {im : XI} {Q : Option Value → XS → XI → Prop} {n : Int} {v : Int32} (hd : decode M.2.1 pc = .ok (.sipush n, 3)) (hv : (Int16.ofInt n).toInt32 = v) (k : V M d b (pc + 3) L (.int v :: st) S im Q) : V M d b pc L st S im Q := by
  intro p l e R s m args below meth c D E A ads H locs cells slots n0 ls C hR hS hn hb1 hb2 hl
  exact lv_sipush C.1.1 C.1.2.1 hd hv (k p l e R s m args below meth c D E A ads H locs cells slots n0 ls C hR hS hn hb1 hb2 hl)
theorem V.ldc {M : XM} {d : Nat} {b : Nat × Nat} {pc : Nat} {L : List (Option Value)} {st : List Value} {S : XS} {im : XI} {Q : Option Value → XS → XI → Prop} {idx : Nat} {v : Int32} (hw : Cond.constant M.1.cls idx v ∈ xgood) (hd : decode M.2.1 pc = .ok (.ldc idx, 2)) (k : V M d b (pc + 2) L (.int v :: st) S im Q) : V M d b pc L st S im Q := by
  intro p l e R s m args below meth c D E A ads H locs cells slots n0 ls C hR hS hn hb1 hb2 hl
  exact lv_ldc C.1.1 C.1.2.1 C.1.2.2.2.1 (C.1.2.2.2.2 _ (List.mem_cons_of_mem _ hw)) hd (k p l e R s m args below meth c D E A ads H locs cells slots n0 ls C hR hS hn hb1 hb2 hl)
theorem V.ldcw {M : XM} {d : Nat} {b : Nat × Nat} {pc : Nat} {L : List (Option Value)} {st : List Value} {S : XS} {im : XI} {Q : Option Value → XS → XI → Prop} {idx : Nat} {v : Int32} (hw : Cond.constant M.1.cls idx v ∈ xgood) (hd : decode M.2.1 pc = .ok (.ldc_w idx, 3)) (k : V M d b (pc + 3) L (.int v :: st) S im Q) : V M d b pc L st S im Q := by
  intro p l e R s m args below meth c D E A ads H locs cells slots n0 ls C hR hS hn hb1 hb2 hl
  exact lv_ldcw C.1.1 C.1.2.1 C.1.2.2.2.1 (C.1.2.2.2.2 _ (List.mem_cons_of_mem _ hw)) hd (k p l e R s m args below meth c D E A ads H locs cells slots n0 ls C hR hS hn hb1 hb2 hl)
theorem V.ldc2 {M : XM} {d : Nat} {b : Nat × Nat} {pc : Nat} {L : List (Option Value)} {st : List Value} {S : XS} {im : XI} {Q : Option Value → XS → XI → Prop} {idx : Nat} {v : Int64} (hw : Cond.constantLong M.1.cls idx v ∈ xgood) (hd : decode M.2.1 pc = .ok (.ldc2_w idx, 3)) (k : V M d b (pc + 3) L (.long v :: st) S im Q) : V M d b pc L st S im Q := by
  intro p l e R s m args below meth c D E A ads H locs cells slots n0 ls C hR hS hn hb1 hb2 hl
  exact lv_ldc2 C.1.1 C.1.2.1 C.1.2.2.2.1 (C.1.2.2.2.2 _ (List.mem_cons_of_mem _ hw)) hd (k p l e R s m args below meth c D E A ads H locs cells slots n0 ls C hR hS hn hb1 hb2 hl)
theorem V.iload_n {M : XM} {d : Nat} {b : Nat × Nat} {pc : Nat} {L : List (Option Value)} {st : List Value} {S : XS} {im : XI} {Q : Option Value → XS → XI → Prop} {i : Nat} {f : Fin 4} {x : Int32} (hd : decode M.2.1 pc = .ok (.iload_n f, 1)) (hi : (f : Nat) = i) (hx : L[i]? = some (some (.int x))) (k : V M d b (pc + 1) L (.int x :: st) S im Q) : V M d b pc L st S im Q := by
  intro p l e R s m args below meth c D E A ads H locs cells slots n0 ls C hR hS hn hb1 hb2 hl
  exact lv_iload_n C.1.1 C.1.2.1 hd hi (hl.2.2 _ _ hx) (k p l e R s m args below meth c D E A ads H locs cells slots n0 ls C hR hS hn hb1 hb2 hl)
theorem V.iload {M : XM} {d : Nat} {b : Nat × Nat} {pc : Nat} {L : List (Option Value)} {st : List Value} {S : XS} {im : XI} {Q : Option Value → XS → XI → Prop} {i : Nat} {x : Int32} (hd : decode M.2.1 pc = .ok (.iload i, 2)) (hx : L[i]? = some (some (.int x))) (k : V M d b (pc + 2) L (.int x :: st) S im Q) : V M d b pc L st S im Q := by
  intro p l e R s m args below meth c D E A ads H locs cells slots n0 ls C hR hS hn hb1 hb2 hl
  exact lv_iload C.1.1 C.1.2.1 hd (hl.2.2 _ _ hx) (k p l e R s m args below meth c D E A ads H locs cells slots n0 ls C hR hS hn hb1 hb2 hl)
theorem V.lload_n {M : XM} {d : Nat} {b : Nat × Nat} {pc : Nat} {L : List (Option Value)} {st : List Value} {S : XS} {im : XI} {Q : Option Value → XS → XI → Prop} {i : Nat} {f : Fin 4} {x : Int64} (hd : decode M.2.1 pc = .ok (.lload_n f, 1)) (hi : (f : Nat) = i) (hx : L[i]? = some (some (.long x))) (k : V M d b (pc + 1) L (.long x :: st) S im Q) : V M d b pc L st S im Q := by
  intro p l e R s m args below meth c D E A ads H locs cells slots n0 ls C hR hS hn hb1 hb2 hl
  exact lv_lload_n C.1.1 C.1.2.1 hd hi (hl.2.2 _ _ hx) (k p l e R s m args below meth c D E A ads H locs cells slots n0 ls C hR hS hn hb1 hb2 hl)
theorem V.lload {M : XM} {d : Nat} {b : Nat × Nat} {pc : Nat} {L : List (Option Value)} {st : List Value} {S : XS} {im : XI} {Q : Option Value → XS → XI → Prop} {i : Nat} {x : Int64} (hd : decode M.2.1 pc = .ok (.lload i, 2)) (hx : L[i]? = some (some (.long x))) (k : V M d b (pc + 2) L (.long x :: st) S im Q) : V M d b pc L st S im Q := by
  intro p l e R s m args below meth c D E A ads H locs cells slots n0 ls C hR hS hn hb1 hb2 hl
  exact lv_lload C.1.1 C.1.2.1 hd (hl.2.2 _ _ hx) (k p l e R s m args below meth c D E A ads H locs cells slots n0 ls C hR hS hn hb1 hb2 hl)
theorem V.aload_n {M : XM} {d : Nat} {b : Nat × Nat} {pc : Nat} {L : List (Option Value)} {st : List Value} {S : XS} {im : XI} {Q : Option Value → XS → XI → Prop} {i : Nat} {f : Fin 4} {x : Nat} (hd : decode M.2.1 pc = .ok (.aload_n f, 1)) (hi : (f : Nat) = i) (hx : L[i]? = some (some (.ref x))) (k : V M d b (pc + 1) L (.ref x :: st) S im Q) : V M d b pc L st S im Q := by
  intro p l e R s m args below meth c D E A ads H locs cells slots n0 ls C hR hS hn hb1 hb2 hl
  exact lv_aload_n C.1.1 C.1.2.1 hd hi (hl.2.2 _ _ hx) (k p l e R s m args below meth c D E A ads H locs cells slots n0 ls C hR hS hn hb1 hb2 hl)
theorem V.aload {M : XM} {d : Nat} {b : Nat × Nat} {pc : Nat} {L : List (Option Value)} {st : List Value} {S : XS} {im : XI} {Q : Option Value → XS → XI → Prop} {i : Nat} {x : Nat} (hd : decode M.2.1 pc = .ok (.aload i, 2)) (hx : L[i]? = some (some (.ref x))) (k : V M d b (pc + 2) L (.ref x :: st) S im Q) : V M d b pc L st S im Q := by
  intro p l e R s m args below meth c D E A ads H locs cells slots n0 ls C hR hS hn hb1 hb2 hl
  exact lv_aload C.1.1 C.1.2.1 hd (hl.2.2 _ _ hx) (k p l e R s m args below meth c D E A ads H locs cells slots n0 ls C hR hS hn hb1 hb2 hl)
theorem V.istore_n {M : XM} {d : Nat} {b : Nat × Nat} {pc : Nat} {L : List (Option Value)} {st : List Value} {S : XS} {im : XI} {Q : Option Value → XS → XI → Prop} {i : Nat} {f : Fin 4} {x : Int32} (hd : decode M.2.1 pc = .ok (.istore_n f, 1)) (hi : (f : Nat) = i) (hlt : Nat.blt i L.length = true) (hsf : xsafe L i = true) (k : V M d b (pc + 1) (L.set i (some (.int x))) st S im Q) : V M d b pc L (.int x :: st) S im Q := by
  intro p l e R s m args below meth c D E A ads H locs cells slots n0 ls C hR hS hn hb1 hb2 hl
  have hlt : i < L.length := Nat.le_of_ble_eq_true hlt
  exact lv_istore_n C.1.1 C.1.2.1 hd hi (xl_lv hl) hlt rfl (fun ls' hl' => k p l e R s m args below meth c D E A ads H locs cells slots n0 ls' C hR hS hn hb1 hb2 (xl_set hlt hsf hl'))
theorem V.istore {M : XM} {d : Nat} {b : Nat × Nat} {pc : Nat} {L : List (Option Value)} {st : List Value} {S : XS} {im : XI} {Q : Option Value → XS → XI → Prop} {i : Nat} {x : Int32} (hd : decode M.2.1 pc = .ok (.istore i, 2)) (hlt : Nat.blt i L.length = true) (hsf : xsafe L i = true) (k : V M d b (pc + 2) (L.set i (some (.int x))) st S im Q) : V M d b pc L (.int x :: st) S im Q := by
  intro p l e R s m args below meth c D E A ads H locs cells slots n0 ls C hR hS hn hb1 hb2 hl
  have hlt : i < L.length := Nat.le_of_ble_eq_true hlt
  exact lv_istore C.1.1 C.1.2.1 hd (xl_lv hl) hlt rfl (fun ls' hl' => k p l e R s m args below meth c D E A ads H locs cells slots n0 ls' C hR hS hn hb1 hb2 (xl_set hlt hsf hl'))
theorem V.astore_n {M : XM} {d : Nat} {b : Nat × Nat} {pc : Nat} {L : List (Option Value)} {st : List Value} {S : XS} {im : XI} {Q : Option Value → XS → XI → Prop} {i : Nat} {f : Fin 4} {x : Nat} (hd : decode M.2.1 pc = .ok (.astore_n f, 1)) (hi : (f : Nat) = i) (hlt : Nat.blt i L.length = true) (hsf : xsafe L i = true) (k : V M d b (pc + 1) (L.set i (some (.ref x))) st S im Q) : V M d b pc L (.ref x :: st) S im Q := by
  intro p l e R s m args below meth c D E A ads H locs cells slots n0 ls C hR hS hn hb1 hb2 hl
  have hlt : i < L.length := Nat.le_of_ble_eq_true hlt
  exact lv_astore_n C.1.1 C.1.2.1 hd hi (xl_lv hl) hlt rfl (fun ls' hl' => k p l e R s m args below meth c D E A ads H locs cells slots n0 ls' C hR hS hn hb1 hb2 (xl_set hlt hsf hl'))
theorem V.astore {M : XM} {d : Nat} {b : Nat × Nat} {pc : Nat} {L : List (Option Value)} {st : List Value} {S : XS} {im : XI} {Q : Option Value → XS → XI → Prop} {i : Nat} {x : Nat} (hd : decode M.2.1 pc = .ok (.astore i, 2)) (hlt : Nat.blt i L.length = true) (hsf : xsafe L i = true) (k : V M d b (pc + 2) (L.set i (some (.ref x))) st S im Q) : V M d b pc L (.ref x :: st) S im Q := by
  intro p l e R s m args below meth c D E A ads H locs cells slots n0 ls C hR hS hn hb1 hb2 hl
  have hlt : i < L.length := Nat.le_of_ble_eq_true hlt
  exact lv_astore C.1.1 C.1.2.1 hd (xl_lv hl) hlt rfl (fun ls' hl' => k p l e R s m args below meth c D E A ads H locs cells slots n0 ls' C hR hS hn hb1 hb2 (xl_set hlt hsf hl'))
theorem V.iinc {M : XM} {d : Nat} {b : Nat × Nat} {pc : Nat} {L : List (Option Value)} {st : List Value} {S : XS} {im : XI} {Q : Option Value → XS → XI → Prop} {i : Nat} {n : Int} {x v : Int32} (hd : decode M.2.1 pc = .ok (.iinc i n, 3)) (hx : L[i]? = some (some (.int x))) (hv : x + Int32.ofInt n = v) (hsf : xsafe L i = true) (k : V M d b (pc + 3) (L.set i (some (.int v))) st S im Q) : V M d b pc L st S im Q := by
  intro p l e R s m args below meth c D E A ads H locs cells slots n0 ls C hR hS hn hb1 hb2 hl
  have hlt : i < L.length := (List.getElem?_eq_some_iff.mp hx).1
  obtain ⟨q, hq⟩ := List.getElem?_of_mem (xlp_mem (ads := ads) (q := (i, Value.int x)).mpr ⟨_, hx, rfl⟩)
  exact lv_iinc C.1.1 C.1.2.1 hd (xl_lv hl) hq hv hlt rfl (fun ls' hl' => k p l e R s m args below meth c D E A ads H locs cells slots n0 ls' C hR hS hn hb1 hb2 (xl_set hlt hsf hl'))
theorem V.iadd {M : XM} {d : Nat} {b : Nat × Nat} {pc : Nat} {L : List (Option Value)} {st : List Value} {S : XS} {im : XI} {Q : Option Value → XS → XI → Prop} {x y : Int32} (hd : decode M.2.1 pc = .ok (.iadd, 1)) (k : V M d b (pc + 1) L (.int (x + y) :: st) S im Q) : V M d b pc L (.int y :: .int x :: st) S im Q := by
  intro p l e R s m args below meth c D E A ads H locs cells slots n0 ls C hR hS hn hb1 hb2 hl
  exact lv_iadd C.1.1 C.1.2.1 hd (k p l e R s m args below meth c D E A ads H locs cells slots n0 ls C hR hS hn hb1 hb2 hl)
theorem V.isub {M : XM} {d : Nat} {b : Nat × Nat} {pc : Nat} {L : List (Option Value)} {st : List Value} {S : XS} {im : XI} {Q : Option Value → XS → XI → Prop} {x y : Int32} (hd : decode M.2.1 pc = .ok (.isub, 1)) (k : V M d b (pc + 1) L (.int (x - y) :: st) S im Q) : V M d b pc L (.int y :: .int x :: st) S im Q := by
  intro p l e R s m args below meth c D E A ads H locs cells slots n0 ls C hR hS hn hb1 hb2 hl
  exact lv_isub C.1.1 C.1.2.1 hd (k p l e R s m args below meth c D E A ads H locs cells slots n0 ls C hR hS hn hb1 hb2 hl)
theorem V.imul {M : XM} {d : Nat} {b : Nat × Nat} {pc : Nat} {L : List (Option Value)} {st : List Value} {S : XS} {im : XI} {Q : Option Value → XS → XI → Prop} {x y : Int32} (hd : decode M.2.1 pc = .ok (.imul, 1)) (k : V M d b (pc + 1) L (.int (x * y) :: st) S im Q) : V M d b pc L (.int y :: .int x :: st) S im Q := by
  intro p l e R s m args below meth c D E A ads H locs cells slots n0 ls C hR hS hn hb1 hb2 hl
  exact lv_imul C.1.1 C.1.2.1 hd (k p l e R s m args below meth c D E A ads H locs cells slots n0 ls C hR hS hn hb1 hb2 hl)
theorem V.iand {M : XM} {d : Nat} {b : Nat × Nat} {pc : Nat} {L : List (Option Value)} {st : List Value} {S : XS} {im : XI} {Q : Option Value → XS → XI → Prop} {x y : Int32} (hd : decode M.2.1 pc = .ok (.iand, 1)) (k : V M d b (pc + 1) L (.int (x &&& y) :: st) S im Q) : V M d b pc L (.int y :: .int x :: st) S im Q := by
  intro p l e R s m args below meth c D E A ads H locs cells slots n0 ls C hR hS hn hb1 hb2 hl
  exact lv_iand C.1.1 C.1.2.1 hd (k p l e R s m args below meth c D E A ads H locs cells slots n0 ls C hR hS hn hb1 hb2 hl)
theorem V.ior {M : XM} {d : Nat} {b : Nat × Nat} {pc : Nat} {L : List (Option Value)} {st : List Value} {S : XS} {im : XI} {Q : Option Value → XS → XI → Prop} {x y : Int32} (hd : decode M.2.1 pc = .ok (.ior, 1)) (k : V M d b (pc + 1) L (.int (x ||| y) :: st) S im Q) : V M d b pc L (.int y :: .int x :: st) S im Q := by
  intro p l e R s m args below meth c D E A ads H locs cells slots n0 ls C hR hS hn hb1 hb2 hl
  exact lv_ior C.1.1 C.1.2.1 hd (k p l e R s m args below meth c D E A ads H locs cells slots n0 ls C hR hS hn hb1 hb2 hl)
theorem V.ixor {M : XM} {d : Nat} {b : Nat × Nat} {pc : Nat} {L : List (Option Value)} {st : List Value} {S : XS} {im : XI} {Q : Option Value → XS → XI → Prop} {x y : Int32} (hd : decode M.2.1 pc = .ok (.ixor, 1)) (k : V M d b (pc + 1) L (.int (x ^^^ y) :: st) S im Q) : V M d b pc L (.int y :: .int x :: st) S im Q := by
  intro p l e R s m args below meth c D E A ads H locs cells slots n0 ls C hR hS hn hb1 hb2 hl
  exact lv_ixor C.1.1 C.1.2.1 hd (k p l e R s m args below meth c D E A ads H locs cells slots n0 ls C hR hS hn hb1 hb2 hl)
theorem V.ishl {M : XM} {d : Nat} {b : Nat × Nat} {pc : Nat} {L : List (Option Value)} {st : List Value} {S : XS} {im : XI} {Q : Option Value → XS → XI → Prop} {x y : Int32} (hd : decode M.2.1 pc = .ok (.ishl, 1)) (k : V M d b (pc + 1) L (.int (x <<< (y &&& 31)) :: st) S im Q) : V M d b pc L (.int y :: .int x :: st) S im Q := by
  intro p l e R s m args below meth c D E A ads H locs cells slots n0 ls C hR hS hn hb1 hb2 hl
  exact lv_ishl C.1.1 C.1.2.1 hd (k p l e R s m args below meth c D E A ads H locs cells slots n0 ls C hR hS hn hb1 hb2 hl)
theorem V.ishr {M : XM} {d : Nat} {b : Nat × Nat} {pc : Nat} {L : List (Option Value)} {st : List Value} {S : XS} {im : XI} {Q : Option Value → XS → XI → Prop} {x y : Int32} (hd : decode M.2.1 pc = .ok (.ishr, 1)) (k : V M d b (pc + 1) L (.int (x >>> (y &&& 31)) :: st) S im Q) : V M d b pc L (.int y :: .int x :: st) S im Q := by
  intro p l e R s m args below meth c D E A ads H locs cells slots n0 ls C hR hS hn hb1 hb2 hl
  exact lv_ishr C.1.1 C.1.2.1 hd (k p l e R s m args below meth c D E A ads H locs cells slots n0 ls C hR hS hn hb1 hb2 hl)
theorem V.idiv {M : XM} {d : Nat} {b : Nat × Nat} {pc : Nat} {L : List (Option Value)} {st : List Value} {S : XS} {im : XI} {Q : Option Value → XS → XI → Prop} {x y : Int32} (hd : decode M.2.1 pc = .ok (.idiv, 1)) (hne : ¬ y = 0) (k : V M d b (pc + 1) L (.int (x / y) :: st) S im Q) : V M d b pc L (.int y :: .int x :: st) S im Q := by
  intro p l e R s m args below meth c D E A ads H locs cells slots n0 ls C hR hS hn hb1 hb2 hl
  exact lv_idiv C.1.1 C.1.2.1 hd hne (k p l e R s m args below meth c D E A ads H locs cells slots n0 ls C hR hS hn hb1 hb2 hl)
theorem V.irem {M : XM} {d : Nat} {b : Nat × Nat} {pc : Nat} {L : List (Option Value)} {st : List Value} {S : XS} {im : XI} {Q : Option Value → XS → XI → Prop} {x y : Int32} (hd : decode M.2.1 pc = .ok (.irem, 1)) (hne : ¬ y = 0) (k : V M d b (pc + 1) L (.int (x - x / y * y) :: st) S im Q) : V M d b pc L (.int y :: .int x :: st) S im Q := by
  intro p l e R s m args below meth c D E A ads H locs cells slots n0 ls C hR hS hn hb1 hb2 hl
  exact lv_irem C.1.1 C.1.2.1 hd hne (k p l e R s m args below meth c D E A ads H locs cells slots n0 ls C hR hS hn hb1 hb2 hl)
theorem V.ineg {M : XM} {d : Nat} {b : Nat × Nat} {pc : Nat} {L : List (Option Value)} {st : List Value} {S : XS} {im : XI} {Q : Option Value → XS → XI → Prop} {x : Int32} (hd : decode M.2.1 pc = .ok (.ineg, 1)) (k : V M d b (pc + 1) L (.int (-x) :: st) S im Q) : V M d b pc L (.int x :: st) S im Q := by
  intro p l e R s m args below meth c D E A ads H locs cells slots n0 ls C hR hS hn hb1 hb2 hl
  exact lv_ineg C.1.1 C.1.2.1 hd (k p l e R s m args below meth c D E A ads H locs cells slots n0 ls C hR hS hn hb1 hb2 hl)
theorem V.iushr {M : XM} {d : Nat} {b : Nat × Nat} {pc : Nat} {L : List (Option Value)} {st : List Value} {S : XS} {im : XI} {Q : Option Value → XS → XI → Prop} {x y : Int32} (hd : decode M.2.1 pc = .ok (.iushr, 1)) (k : V M d b (pc + 1) L (.int ((x.toUInt32 >>> (y.toUInt32 &&& Int32.toUInt32 31)).toInt32) :: st) S im Q) : V M d b pc L (.int y :: .int x :: st) S im Q := by
  intro p l e R s m args below meth c D E A ads H locs cells slots n0 ls C hR hS hn hb1 hb2 hl
  exact lv_iushr C.1.1 C.1.2.1 hd rfl (k p l e R s m args below meth c D E A ads H locs cells slots n0 ls C hR hS hn hb1 hb2 hl)
theorem V.land {M : XM} {d : Nat} {b : Nat × Nat} {pc : Nat} {L : List (Option Value)} {st : List Value} {S : XS} {im : XI} {Q : Option Value → XS → XI → Prop} {x y : Int64} (hd : decode M.2.1 pc = .ok (.land, 1)) (k : V M d b (pc + 1) L (.long (x &&& y) :: st) S im Q) : V M d b pc L (.long y :: .long x :: st) S im Q := by
  intro p l e R s m args below meth c D E A ads H locs cells slots n0 ls C hR hS hn hb1 hb2 hl
  exact lv_land C.1.1 C.1.2.1 hd (k p l e R s m args below meth c D E A ads H locs cells slots n0 ls C hR hS hn hb1 hb2 hl)
theorem V.lor {M : XM} {d : Nat} {b : Nat × Nat} {pc : Nat} {L : List (Option Value)} {st : List Value} {S : XS} {im : XI} {Q : Option Value → XS → XI → Prop} {x y : Int64} (hd : decode M.2.1 pc = .ok (.lor, 1)) (k : V M d b (pc + 1) L (.long (x ||| y) :: st) S im Q) : V M d b pc L (.long y :: .long x :: st) S im Q := by
  intro p l e R s m args below meth c D E A ads H locs cells slots n0 ls C hR hS hn hb1 hb2 hl
  exact lv_lor C.1.1 C.1.2.1 hd (k p l e R s m args below meth c D E A ads H locs cells slots n0 ls C hR hS hn hb1 hb2 hl)
theorem V.lushr {M : XM} {d : Nat} {b : Nat × Nat} {pc : Nat} {L : List (Option Value)} {st : List Value} {S : XS} {im : XI} {Q : Option Value → XS → XI → Prop} {x : Int64} {y : Int32} (hd : decode M.2.1 pc = .ok (.lushr, 1)) (k : V M d b (pc + 1) L (.long ((x.toUInt64 >>> (y.toInt64.toUInt64 &&& Int64.toUInt64 63)).toInt64) :: st) S im Q) : V M d b pc L (.int y :: .long x :: st) S im Q := by
  intro p l e R s m args below meth c D E A ads H locs cells slots n0 ls C hR hS hn hb1 hb2 hl
  exact lv_lushr C.1.1 C.1.2.1 hd rfl (k p l e R s m args below meth c D E A ads H locs cells slots n0 ls C hR hS hn hb1 hb2 hl)
theorem V.lshl {M : XM} {d : Nat} {b : Nat × Nat} {pc : Nat} {L : List (Option Value)} {st : List Value} {S : XS} {im : XI} {Q : Option Value → XS → XI → Prop} {x : Int64} {y : Int32} (hd : decode M.2.1 pc = .ok (.lshl, 1)) (k : V M d b (pc + 1) L (.long (x <<< (y.toInt64 &&& 63)) :: st) S im Q) : V M d b pc L (.int y :: .long x :: st) S im Q := by
  intro p l e R s m args below meth c D E A ads H locs cells slots n0 ls C hR hS hn hb1 hb2 hl
  exact lv_lshl C.1.1 C.1.2.1 hd rfl (k p l e R s m args below meth c D E A ads H locs cells slots n0 ls C hR hS hn hb1 hb2 hl)
theorem V.lshr {M : XM} {d : Nat} {b : Nat × Nat} {pc : Nat} {L : List (Option Value)} {st : List Value} {S : XS} {im : XI} {Q : Option Value → XS → XI → Prop} {x : Int64} {y : Int32} (hd : decode M.2.1 pc = .ok (.lshr, 1)) (k : V M d b (pc + 1) L (.long (x >>> (y.toInt64 &&& 63)) :: st) S im Q) : V M d b pc L (.int y :: .long x :: st) S im Q := by
  intro p l e R s m args below meth c D E A ads H locs cells slots n0 ls C hR hS hn hb1 hb2 hl
  exact lv_lshr C.1.1 C.1.2.1 hd rfl (k p l e R s m args below meth c D E A ads H locs cells slots n0 ls C hR hS hn hb1 hb2 hl)
theorem V.i2l {M : XM} {d : Nat} {b : Nat × Nat} {pc : Nat} {L : List (Option Value)} {st : List Value} {S : XS} {im : XI} {Q : Option Value → XS → XI → Prop} {x : Int32} (hd : decode M.2.1 pc = .ok (.i2l, 1)) (k : V M d b (pc + 1) L (.long x.toInt64 :: st) S im Q) : V M d b pc L (.int x :: st) S im Q := by
  intro p l e R s m args below meth c D E A ads H locs cells slots n0 ls C hR hS hn hb1 hb2 hl
  exact lv_i2l C.1.1 C.1.2.1 hd rfl (k p l e R s m args below meth c D E A ads H locs cells slots n0 ls C hR hS hn hb1 hb2 hl)
theorem V.l2i {M : XM} {d : Nat} {b : Nat × Nat} {pc : Nat} {L : List (Option Value)} {st : List Value} {S : XS} {im : XI} {Q : Option Value → XS → XI → Prop} {x : Int64} (hd : decode M.2.1 pc = .ok (.l2i, 1)) (k : V M d b (pc + 1) L (.int x.toInt32 :: st) S im Q) : V M d b pc L (.long x :: st) S im Q := by
  intro p l e R s m args below meth c D E A ads H locs cells slots n0 ls C hR hS hn hb1 hb2 hl
  exact lv_l2i C.1.1 C.1.2.1 hd rfl (k p l e R s m args below meth c D E A ads H locs cells slots n0 ls C hR hS hn hb1 hb2 hl)
theorem V.dup {M : XM} {d : Nat} {b : Nat × Nat} {pc : Nat} {L : List (Option Value)} {st : List Value} {S : XS} {im : XI} {Q : Option Value → XS → XI → Prop} {v : Value} (hd : decode M.2.1 pc = .ok (.dup, 1)) (hc : v.category = 1) (k : V M d b (pc + 1) L (v :: v :: st) S im Q) : V M d b pc L (v :: st) S im Q := by
  intro p l e R s m args below meth c D E A ads H locs cells slots n0 ls C hR hS hn hb1 hb2 hl
  exact lv_dup C.1.1 C.1.2.1 hd (by rw [conc_cat]; exact hc) (k p l e R s m args below meth c D E A ads H locs cells slots n0 ls C hR hS hn hb1 hb2 hl)
theorem V.pop {M : XM} {d : Nat} {b : Nat × Nat} {pc : Nat} {L : List (Option Value)} {st : List Value} {S : XS} {im : XI} {Q : Option Value → XS → XI → Prop} {v : Value} (hd : decode M.2.1 pc = .ok (.pop, 1)) (hc : v.category = 1) (k : V M d b (pc + 1) L st S im Q) : V M d b pc L (v :: st) S im Q := by
  intro p l e R s m args below meth c D E A ads H locs cells slots n0 ls C hR hS hn hb1 hb2 hl
  exact lv_pop C.1.1 C.1.2.1 hd (by rw [conc_cat]; exact hc) (k p l e R s m args below meth c D E A ads H locs cells slots n0 ls C hR hS hn hb1 hb2 hl)
theorem V.dup2 {M : XM} {d : Nat} {b : Nat × Nat} {pc : Nat} {L : List (Option Value)} {st : List Value} {S : XS} {im : XI} {Q : Option Value → XS → XI → Prop} {v w : Value} (hd : decode M.2.1 pc = .ok (.dup2, 1)) (hc : v.category = 1) (hc2 : w.category = 1) (k : V M d b (pc + 1) L (v :: w :: v :: w :: st) S im Q) : V M d b pc L (v :: w :: st) S im Q := by
  intro p l e R s m args below meth c D E A ads H locs cells slots n0 ls C hR hS hn hb1 hb2 hl
  exact lv_dup2_11 C.1.1 C.1.2.1 hd (by rw [conc_cat]; exact hc) (by rw [conc_cat]; exact hc2) (k p l e R s m args below meth c D E A ads H locs cells slots n0 ls C hR hS hn hb1 hb2 hl)
theorem V.goto {M : XM} {d : Nat} {b : Nat × Nat} {pc : Nat} {L : List (Option Value)} {st : List Value} {S : XS} {im : XI} {Q : Option Value → XS → XI → Prop} {off : Int} {tgt : Nat} (hd : decode M.2.1 pc = .ok (.goto off, 3)) (ht : (pc : Int) + off = (tgt : Int)) (k : V M d b tgt L st S im Q) : V M d b pc L st S im Q := by
  intro p l e R s m args below meth c D E A ads H locs cells slots n0 ls C hR hS hn hb1 hb2 hl
  exact lv_goto C.1.1 C.1.2.1 hd ht (k p l e R s m args below meth c D E A ads H locs cells slots n0 ls C hR hS hn hb1 hb2 hl)
theorem V.if_eq {M : XM} {d : Nat} {b : Nat × Nat} {pc : Nat} {L : List (Option Value)} {st : List Value} {S : XS} {im : XI} {Q : Option Value → XS → XI → Prop} {x : Int32} {off : Int} {tgt : Nat} (hd : decode M.2.1 pc = .ok (.ifCond .eq off, 3)) (ht : (pc : Int) + off = (tgt : Int)) (kt : x = 0 → V M d b tgt L st S im Q) (kf : ¬ x = 0 → V M d b (pc + 3) L st S im Q) : V M d b pc L (.int x :: st) S im Q := by
  intro p l e R s m args below meth c D E A ads H locs cells slots n0 ls C hR hS hn hb1 hb2 hl
  exact lv_if_eq C.1.1 C.1.2.1 hd ht (fun h => kt h p l e R s m args below meth c D E A ads H locs cells slots n0 ls C hR hS hn hb1 hb2 hl) (fun h => kf h p l e R s m args below meth c D E A ads H locs cells slots n0 ls C hR hS hn hb1 hb2 hl)
theorem V.if_ne {M : XM} {d : Nat} {b : Nat × Nat} {pc : Nat} {L : List (Option Value)} {st : List Value} {S : XS} {im : XI} {Q : Option Value → XS → XI → Prop} {x : Int32} {off : Int} {tgt : Nat} (hd : decode M.2.1 pc = .ok (.ifCond .ne off, 3)) (ht : (pc : Int) + off = (tgt : Int)) (kt : ¬ x = 0 → V M d b tgt L st S im Q) (kf : x = 0 → V M d b (pc + 3) L st S im Q) : V M d b pc L (.int x :: st) S im Q := by
  intro p l e R s m args below meth c D E A ads H locs cells slots n0 ls C hR hS hn hb1 hb2 hl
  exact lv_if_ne C.1.1 C.1.2.1 hd ht (fun h => kt h p l e R s m args below meth c D E A ads H locs cells slots n0 ls C hR hS hn hb1 hb2 hl) (fun h => kf h p l e R s m args below meth c D E A ads H locs cells slots n0 ls C hR hS hn hb1 hb2 hl)
theorem V.if_lt {M : XM} {d : Nat} {b : Nat × Nat} {pc : Nat} {L : List (Option Value)} {st : List Value} {S : XS} {im : XI} {Q : Option Value → XS → XI → Prop} {x : Int32} {off : Int} {tgt : Nat} (hd : decode M.2.1 pc = .ok (.ifCond .lt off, 3)) (ht : (pc : Int) + off = (tgt : Int)) (kt : x < 0 → V M d b tgt L st S im Q) (kf : ¬ x < 0 → V M d b (pc + 3) L st S im Q) : V M d b pc L (.int x :: st) S im Q := by
  intro p l e R s m args below meth c D E A ads H locs cells slots n0 ls C hR hS hn hb1 hb2 hl
  exact lv_if_lt C.1.1 C.1.2.1 hd ht (fun h => kt h p l e R s m args below meth c D E A ads H locs cells slots n0 ls C hR hS hn hb1 hb2 hl) (fun h => kf h p l e R s m args below meth c D E A ads H locs cells slots n0 ls C hR hS hn hb1 hb2 hl)
theorem V.if_ge {M : XM} {d : Nat} {b : Nat × Nat} {pc : Nat} {L : List (Option Value)} {st : List Value} {S : XS} {im : XI} {Q : Option Value → XS → XI → Prop} {x : Int32} {off : Int} {tgt : Nat} (hd : decode M.2.1 pc = .ok (.ifCond .ge off, 3)) (ht : (pc : Int) + off = (tgt : Int)) (kt : 0 ≤ x → V M d b tgt L st S im Q) (kf : ¬ 0 ≤ x → V M d b (pc + 3) L st S im Q) : V M d b pc L (.int x :: st) S im Q := by
  intro p l e R s m args below meth c D E A ads H locs cells slots n0 ls C hR hS hn hb1 hb2 hl
  exact lv_if_ge C.1.1 C.1.2.1 hd ht (fun h => kt h p l e R s m args below meth c D E A ads H locs cells slots n0 ls C hR hS hn hb1 hb2 hl) (fun h => kf h p l e R s m args below meth c D E A ads H locs cells slots n0 ls C hR hS hn hb1 hb2 hl)
theorem V.if_gt {M : XM} {d : Nat} {b : Nat × Nat} {pc : Nat} {L : List (Option Value)} {st : List Value} {S : XS} {im : XI} {Q : Option Value → XS → XI → Prop} {x : Int32} {off : Int} {tgt : Nat} (hd : decode M.2.1 pc = .ok (.ifCond .gt off, 3)) (ht : (pc : Int) + off = (tgt : Int)) (kt : 0 < x → V M d b tgt L st S im Q) (kf : ¬ 0 < x → V M d b (pc + 3) L st S im Q) : V M d b pc L (.int x :: st) S im Q := by
  intro p l e R s m args below meth c D E A ads H locs cells slots n0 ls C hR hS hn hb1 hb2 hl
  exact lv_if_gt C.1.1 C.1.2.1 hd ht (fun h => kt h p l e R s m args below meth c D E A ads H locs cells slots n0 ls C hR hS hn hb1 hb2 hl) (fun h => kf h p l e R s m args below meth c D E A ads H locs cells slots n0 ls C hR hS hn hb1 hb2 hl)
theorem V.if_le {M : XM} {d : Nat} {b : Nat × Nat} {pc : Nat} {L : List (Option Value)} {st : List Value} {S : XS} {im : XI} {Q : Option Value → XS → XI → Prop} {x : Int32} {off : Int} {tgt : Nat} (hd : decode M.2.1 pc = .ok (.ifCond .le off, 3)) (ht : (pc : Int) + off = (tgt : Int)) (kt : x ≤ 0 → V M d b tgt L st S im Q) (kf : ¬ x ≤ 0 → V M d b (pc + 3) L st S im Q) : V M d b pc L (.int x :: st) S im Q := by
  intro p l e R s m args below meth c D E A ads H locs cells slots n0 ls C hR hS hn hb1 hb2 hl
  exact lv_if_le C.1.1 C.1.2.1 hd ht (fun h => kt h p l e R s m args below meth c D E A ads H locs cells slots n0 ls C hR hS hn hb1 hb2 hl) (fun h => kf h p l e R s m args below meth c D E A ads H locs cells slots n0 ls C hR hS hn hb1 hb2 hl)
theorem V.icmp_eq {M : XM} {d : Nat} {b : Nat × Nat} {pc : Nat} {L : List (Option Value)} {st : List Value} {S : XS} {im : XI} {Q : Option Value → XS → XI → Prop} {x y : Int32} {off : Int} {tgt : Nat} (hd : decode M.2.1 pc = .ok (.if_icmp .eq off, 3)) (ht : (pc : Int) + off = (tgt : Int)) (kt : x = y → V M d b tgt L st S im Q) (kf : ¬ x = y → V M d b (pc + 3) L st S im Q) : V M d b pc L (.int y :: .int x :: st) S im Q := by
  intro p l e R s m args below meth c D E A ads H locs cells slots n0 ls C hR hS hn hb1 hb2 hl
  exact lv_icmp_eq C.1.1 C.1.2.1 hd ht (fun h => kt h p l e R s m args below meth c D E A ads H locs cells slots n0 ls C hR hS hn hb1 hb2 hl) (fun h => kf h p l e R s m args below meth c D E A ads H locs cells slots n0 ls C hR hS hn hb1 hb2 hl)
theorem V.icmp_ne {M : XM} {d : Nat} {b : Nat × Nat} {pc : Nat} {L : List (Option Value)} {st : List Value} {S : XS} {im : XI} {Q : Option Value → XS → XI → Prop} {x y : Int32} {off : Int} {tgt : Nat} (hd : decode M.2.1 pc = .ok (.if_icmp .ne off, 3)) (ht : (pc : Int) + off = (tgt : Int)) (kt : ¬ x = y → V M d b tgt L st S im Q) (kf : x = y → V M d b (pc + 3) L st S im Q) : V M d b pc L (.int y :: .int x :: st) S im Q := by
  intro p l e R s m args below meth c D E A ads H locs cells slots n0 ls C hR hS hn hb1 hb2 hl
  exact lv_icmp_ne C.1.1 C.1.2.1 hd ht (fun h => kt h p l e R s m args below meth c D E A ads H locs cells slots n0 ls C hR hS hn hb1 hb2 hl) (fun h => kf h p l e R s m args below meth c D E A ads H locs cells slots n0 ls C hR hS hn hb1 hb2 hl)
theorem V.icmp_lt {M : XM} {d : Nat} {b : Nat × Nat} {pc : Nat} {L : List (Option Value)} {st : List Value} {S : XS} {im : XI} {Q : Option Value → XS → XI → Prop} {x y : Int32} {off : Int} {tgt : Nat} (hd : decode M.2.1 pc = .ok (.if_icmp .lt off, 3)) (ht : (pc : Int) + off = (tgt : Int)) (kt : x < y → V M d b tgt L st S im Q) (kf : ¬ x < y → V M d b (pc + 3) L st S im Q) : V M d b pc L (.int y :: .int x :: st) S im Q := by
  intro p l e R s m args below meth c D E A ads H locs cells slots n0 ls C hR hS hn hb1 hb2 hl
  exact lv_icmp_lt C.1.1 C.1.2.1 hd ht (fun h => kt h p l e R s m args below meth c D E A ads H locs cells slots n0 ls C hR hS hn hb1 hb2 hl) (fun h => kf h p l e R s m args below meth c D E A ads H locs cells slots n0 ls C hR hS hn hb1 hb2 hl)
theorem V.icmp_ge {M : XM} {d : Nat} {b : Nat × Nat} {pc : Nat} {L : List (Option Value)} {st : List Value} {S : XS} {im : XI} {Q : Option Value → XS → XI → Prop} {x y : Int32} {off : Int} {tgt : Nat} (hd : decode M.2.1 pc = .ok (.if_icmp .ge off, 3)) (ht : (pc : Int) + off = (tgt : Int)) (kt : y ≤ x → V M d b tgt L st S im Q) (kf : ¬ y ≤ x → V M d b (pc + 3) L st S im Q) : V M d b pc L (.int y :: .int x :: st) S im Q := by
  intro p l e R s m args below meth c D E A ads H locs cells slots n0 ls C hR hS hn hb1 hb2 hl
  exact lv_icmp_ge C.1.1 C.1.2.1 hd ht (fun h => kt h p l e R s m args below meth c D E A ads H locs cells slots n0 ls C hR hS hn hb1 hb2 hl) (fun h => kf h p l e R s m args below meth c D E A ads H locs cells slots n0 ls C hR hS hn hb1 hb2 hl)
theorem V.icmp_gt {M : XM} {d : Nat} {b : Nat × Nat} {pc : Nat} {L : List (Option Value)} {st : List Value} {S : XS} {im : XI} {Q : Option Value → XS → XI → Prop} {x y : Int32} {off : Int} {tgt : Nat} (hd : decode M.2.1 pc = .ok (.if_icmp .gt off, 3)) (ht : (pc : Int) + off = (tgt : Int)) (kt : y < x → V M d b tgt L st S im Q) (kf : ¬ y < x → V M d b (pc + 3) L st S im Q) : V M d b pc L (.int y :: .int x :: st) S im Q := by
  intro p l e R s m args below meth c D E A ads H locs cells slots n0 ls C hR hS hn hb1 hb2 hl
  exact lv_icmp_gt C.1.1 C.1.2.1 hd ht (fun h => kt h p l e R s m args below meth c D E A ads H locs cells slots n0 ls C hR hS hn hb1 hb2 hl) (fun h => kf h p l e R s m args below meth c D E A ads H locs cells slots n0 ls C hR hS hn hb1 hb2 hl)
theorem V.icmp_le {M : XM} {d : Nat} {b : Nat × Nat} {pc : Nat} {L : List (Option Value)} {st : List Value} {S : XS} {im : XI} {Q : Option Value → XS → XI → Prop} {x y : Int32} {off : Int} {tgt : Nat} (hd : decode M.2.1 pc = .ok (.if_icmp .le off, 3)) (ht : (pc : Int) + off = (tgt : Int)) (kt : x ≤ y → V M d b tgt L st S im Q) (kf : ¬ x ≤ y → V M d b (pc + 3) L st S im Q) : V M d b pc L (.int y :: .int x :: st) S im Q := by
  intro p l e R s m args below meth c D E A ads H locs cells slots n0 ls C hR hS hn hb1 hb2 hl
  exact lv_icmp_le C.1.1 C.1.2.1 hd ht (fun h => kt h p l e R s m args below meth c D E A ads H locs cells slots n0 ls C hR hS hn hb1 hb2 hl) (fun h => kf h p l e R s m args below meth c D E A ads H locs cells slots n0 ls C hR hS hn hb1 hb2 hl)
theorem V.nonnull {M : XM} {d : Nat} {b : Nat × Nat} {pc : Nat} {L : List (Option Value)} {st : List Value} {S : XS} {im : XI} {Q : Option Value → XS → XI → Prop} {x : Nat} {off : Int} {tgt : Nat} (hd : decode M.2.1 pc = .ok (.ifnonnull off, 3)) (ht : (pc : Int) + off = (tgt : Int)) (k : V M d b tgt L st S im Q) : V M d b pc L (.ref x :: st) S im Q := by
  intro p l e R s m args below meth c D E A ads H locs cells slots n0 ls C hR hS hn hb1 hb2 hl
  exact lv_ifnonnull C.1.1 C.1.2.1 hd ht (k p l e R s m args below meth c D E A ads H locs cells slots n0 ls C hR hS hn hb1 hb2 hl)
theorem V.nonnullN {M : XM} {d : Nat} {b : Nat × Nat} {pc : Nat} {L : List (Option Value)} {st : List Value} {S : XS} {im : XI} {Q : Option Value → XS → XI → Prop} {off : Int} (hd : decode M.2.1 pc = .ok (.ifnonnull off, 3)) (k : V M d b (pc + 3) L st S im Q) : V M d b pc L (.null :: st) S im Q := by
  intro p l e R s m args below meth c D E A ads H locs cells slots n0 ls C hR hS hn hb1 hb2 hl
  exact lv_ifnonnullN C.1.1 C.1.2.1 hd (k p l e R s m args below meth c D E A ads H locs cells slots n0 ls C hR hS hn hb1 hb2 hl)
theorem V.lookup {M : XM} {d : Nat} {b : Nat × Nat} {pc : Nat} {L : List (Option Value)} {st : List Value} {S : XS} {im : XI} {Q : Option Value → XS → XI → Prop} {dflt : Int} {ps : Array (Int × Int)} {len : Nat} {x : Int32} {off : Int} {tgt : Nat} (hd : decode M.2.1 pc = .ok (.lookupswitch dflt ps, len)) (hp : (ps.toList.zip (ps.toList.drop 1)).all (fun (a, next) => a.1 < next.1) = true) (ho : Op.lookupswitch.offset ps.toList dflt x.toInt = off) (ht : (pc : Int) + off = (tgt : Int)) (k : V M d b tgt L st S im Q) : V M d b pc L (.int x :: st) S im Q := by
  intro p l e R s m args below meth c D E A ads H locs cells slots n0 ls C hR hS hn hb1 hb2 hl
  exact lv_lookup C.1.1 C.1.2.1 hd hp ho ht (k p l e R s m args below meth c D E A ads H locs cells slots n0 ls C hR hS hn hb1 hb2 hl)
theorem V.tableIn {M : XM} {d : Nat} {b : Nat × Nat} {pc : Nat} {L : List (Option Value)} {st : List Value} {S : XS} {im : XI} {Q : Option Value → XS → XI → Prop} {dflt lo hi : Int} {offs : Array Int} {len : Nat} {x : Int32} {off : Int} {tgt : Nat} (hd : decode M.2.1 pc = .ok (.tableswitch dflt lo hi offs, len)) (h1 : ¬ x.toInt < lo) (h2 : ¬ hi < x.toInt) (ho : offs[(x.toInt - lo).toNat]? = some off) (ht : (pc : Int) + off = (tgt : Int)) (k : V M d b tgt L st S im Q) : V M d b pc L (.int x :: st) S im Q := by
  intro p l e R s m args below meth c D E A ads H locs cells slots n0 ls C hR hS hn hb1 hb2 hl
  exact lv_tableIn C.1.1 C.1.2.1 hd h1 h2 ho ht (k p l e R s m args below meth c D E A ads H locs cells slots n0 ls C hR hS hn hb1 hb2 hl)
theorem V.tableOut {M : XM} {d : Nat} {b : Nat × Nat} {pc : Nat} {L : List (Option Value)} {st : List Value} {S : XS} {im : XI} {Q : Option Value → XS → XI → Prop} {dflt lo hi : Int} {offs : Array Int} {len : Nat} {x : Int32} {tgt : Nat} (hd : decode M.2.1 pc = .ok (.tableswitch dflt lo hi offs, len)) (h : x.toInt < lo ∨ hi < x.toInt) (ht : (pc : Int) + dflt = (tgt : Int)) (k : V M d b tgt L st S im Q) : V M d b pc L (.int x :: st) S im Q := by
  intro p l e R s m args below meth c D E A ads H locs cells slots n0 ls C hR hS hn hb1 hb2 hl
  exact lv_tableOut C.1.1 C.1.2.1 hd h ht (k p l e R s m args below meth c D E A ads H locs cells slots n0 ls C hR hS hn hb1 hb2 hl)
-- ===== fields =====
def XF (own : String) (idx ci j : Nat) (ty : FieldType) (fin : Bool) : Prop := ∃ (C : String) (T : u_T) (N : Nat), vwCl[ci]? = some (C, T, N) ∧ j < N ∧ (T j).1 = C ∧ parseFieldDescriptor (T j).2.2.1 = some ty ∧ (T j).2.2.2 = fin ∧
  ((Cond.fieldLink own idx C (T j).2.1 (T j).2.2.1) ∈ xgood ∨ ∃ host, (Cond.fieldLinkNest own idx C (T j).2.1 (T j).2.2.1 host) ∈ xnest)
theorem XF.of {own C : String} {idx ci j N : Nat} {T : u_T} {ty : FieldType} {fin : Bool} (h0 : vwCl[ci]? = some (C, T, N)) (h1 : Nat.blt j N = true) (h2 : (T j).1 = C) (h3 : parseFieldDescriptor (T j).2.2.1 = some ty) (h4 : (T j).2.2.2 = fin) (h5 : (Cond.fieldLink own idx C (T j).2.1 (T j).2.2.1) ∈ xgood) : XF own idx ci j ty fin :=
  ⟨C, T, N, h0, Nat.le_of_ble_eq_true h1, h2, h3, h4, Or.inl h5⟩
theorem XF.ofN {own C host : String} {idx ci j N : Nat} {T : u_T} {ty : FieldType} {fin : Bool} (h0 : vwCl[ci]? = some (C, T, N)) (h1 : Nat.blt j N = true) (h2 : (T j).1 = C) (h3 : parseFieldDescriptor (T j).2.2.1 = some ty) (h4 : (T j).2.2.2 = fin) (h5 : (Cond.fieldLinkNest own idx C (T j).2.1 (T j).2.2.1 host) ∈ xnest) : XF own idx ci j ty fin :=
  ⟨C, T, N, h0, Nat.le_of_ble_eq_true h1, h2, h3, h4, Or.inr ⟨host, h5⟩⟩
def XCl (C : String) (T : u_T) (N ci : Nat) : Prop := (∀ w ∈ u_ws C T N, w ∈ xgood) ∧ ∃ ty : Nat → FieldType, (∀ k, k < N → parseFieldDescriptor (T k).2.2.1 = some (ty k)) ∧ (∀ a, a < N → ∀ b, b < N → a ≠ b → (T a).2.1 ≠ (T b).2.1) ∧ ∀ j, j < N → defaultValue (ty j) = if xref ci j = true then .null else .int 0
theorem xcl_words {C : String} {T : u_T} {N : Nat} (h1 : ∀ w ∈ u_ws C T N, w ∈ tables_1) (h2 : (u_ws C T N).all goodWord = true) : ∀ w ∈ u_ws C T N, w ∈ xgood := fun w hw =>
  List.mem_filter.mpr ⟨List.mem_append_right _ (h1 w hw), List.all_eq_true.mp h2 w hw⟩
theorem xcl_0 : XCl RX0 TX0 3 0 := ⟨xcl_words (by decide +kernel) (by decide +kernel), tyX0, tyX0_ok, nmX0, by decide +kernel⟩
theorem xcl_1 : XCl RX1 TX1 6 1 := ⟨xcl_words (by decide +kernel) (by decide +kernel), tyX1, tyX1_ok, nmX1, by decide +kernel⟩
theorem xcl_2 : XCl RX2 TX2 10 2 := ⟨xcl_words (by decide +kernel) (by decide +kernel), tyX2, tyX2_ok, nmX2, by decide +kernel⟩
theorem xcl_3 : XCl RX3 TX3 4 3 := ⟨xcl_words (by decide +kernel) (by decide +kernel), tyX3, tyX3_ok, nmX3, by decide +kernel⟩
theorem xcl_4 : XCl RX4 TX4 4 4 := ⟨xcl_words (by decide +kernel) (by decide +kernel), tyX4, tyX4_ok, nmX4, by decide +kernel⟩
theorem xcl_5 : XCl RX5 TX5 4 5 := ⟨xcl_words (by decide +kernel) (by decide +kernel), tyX5, tyX5_ok, nmX5, by decide +kernel⟩
theorem xcl_6 : XCl RX6 TX6 2 6 := ⟨xcl_words (by decide +kernel) (by decide +kernel), tyX6, tyX6_ok, nmX6, by decide +kernel⟩
theorem xcl_7 : XCl RX7 TX7 2 7 := ⟨xcl_words (by decide +kernel) (by decide +kernel), tyX7, tyX7_ok, nmX7, by decide +kernel⟩
theorem xcl_8 : XCl RX8 TX8 5 8 := ⟨xcl_words (by decide +kernel) (by decide +kernel), tyX8, tyX8_ok, nmX8, by decide +kernel⟩
theorem xcl_9 : XCl RX9 TX9 8 9 := ⟨xcl_words (by decide +kernel) (by decide +kernel), tyX9, tyX9_ok, nmX9, by decide +kernel⟩
theorem xcl_10 : XCl RX10 TX10 20 10 := ⟨xcl_words (by decide +kernel) (by decide +kernel), tyX10, tyX10_ok, nmX10, by decide +kernel⟩
theorem xcl {ci N : Nat} {C : String} {T : u_T} (h : vwCl[ci]? = some (C, T, N)) : XCl C T N ci := by
  match ci, h with
  | 0, h => cases h; exact xcl_0
  | 1, h => cases h; exact xcl_1
  | 2, h => cases h; exact xcl_2
  | 3, h => cases h; exact xcl_3
  | 4, h => cases h; exact xcl_4
  | 5, h => cases h; exact xcl_5
  | 6, h => cases h; exact xcl_6
  | 7, h => cases h; exact xcl_7
  | 8, h => cases h; exact xcl_8
  | 9, h => cases h; exact xcl_9
  | 10, h => cases h; exact xcl_10
  | n + 11, h => simp at h
theorem V.getf {M : XM} {d : Nat} {b : Nat × Nat} {pc : Nat} {L : List (Option Value)} {st : List Value} {S : XS} {im : XI} {Q : Option Value → XS → XI → Prop} {idx a ci j : Nat} {ty : FieldType} {fin : Bool} (hf : XF M.1.cls idx ci j ty fin) (hsh : S.1[a]? = some (.inl ci)) (hd : decode M.2.1 pc = .ok (.getfield idx, 3)) {v : Value} (hv : ∀ ads, xfv ads ci (S.2 a) (im a) j = conc ads v) (k : V M d b (pc + 3) L (v :: st) S im Q) : V M d b pc L (.ref a :: st) S im Q := by
  intro p l e R s m args below meth c D E A ads H locs cells slots n0 ls C hR hS hn hb1 hb2 hl
  obtain ⟨CC, T, N, h0, h1, h2, h3, h4, h5⟩ := hf
  have hx := xnf_of h0
  have hfs : (xfs ads ci (S.2 a) (im a))[j]? = some (conc ads v) := by rw [xfs_get (by rw [hx]; exact h1), hv]
  have kk := k p l e R s m args below meth c D E A ads H locs cells slots n0 ls C hR hS hn hb1 hb2 hl
  have hin : ∀ w ∈ u_ws CC T N, w ∈ xws M := fun w hw => List.mem_cons_of_mem _ ((xcl h0).1 w hw)
  rcases h5 with h5 | ⟨host, h5⟩
  · exact va_get (D := D) C.1.1 C.1.2.1 C.1.2.2.2.2 hin C.1.2.2.2.1 C.2.2.1.1 hR.1 a (xw_get hsh) h0 j h1 (C.1.2.2.2.2 _ (List.mem_cons_of_mem _ h5)) (fun x h9 => by rw [h2] at h9; exact h9) hfs hd kk
  · exact va_getN (D := D) C.1.1 C.1.2.1 C.1.2.2.2.2 hin C.1.2.2.2.1 C.2.2.1.1 hR.1 a (xw_get hsh) h0 j h1 (va_Nw.use rfl (C.2.2.1.2.1.1 _ h5)) (fun x h9 => by rw [h2] at h9; exact h9) hfs hd kk
theorem V.getI {M : XM} {d : Nat} {b : Nat × Nat} {pc : Nat} {L : List (Option Value)} {st : List Value} {S : XS} {im : XI} {Q : Option Value → XS → XI → Prop} {idx a ci j : Nat} {ty : FieldType} {fin : Bool} (hf : XF M.1.cls idx ci j ty fin) (hr : xref ci j = false) (hsh : S.1[a]? = some (.inl ci)) (hd : decode M.2.1 pc = .ok (.getfield idx, 3)) (k : V M d b (pc + 3) L (.int (im a j) :: st) S im Q) : V M d b pc L (.ref a :: st) S im Q :=
  V.getf hf hsh hd (v := .int (im a j)) (fun ads => by simp [xfv, hr, conc]) k
theorem V.getR {M : XM} {d : Nat} {b : Nat × Nat} {pc : Nat} {L : List (Option Value)} {st : List Value} {S : XS} {im : XI} {Q : Option Value → XS → XI → Prop} {idx a a' ci j : Nat} {ty : FieldType} {fin : Bool} (hf : XF M.1.cls idx ci j ty fin) (hr : xref ci j = true) (hsh : S.1[a]? = some (.inl ci)) (hrm : S.2 a j = some a') (hd : decode M.2.1 pc = .ok (.getfield idx, 3)) (k : V M d b (pc + 3) L (.ref a' :: st) S im Q) : V M d b pc L (.ref a :: st) S im Q :=
  V.getf hf hsh hd (v := .ref a') (fun ads => by simp [xfv, hr, hrm, conc, va_rf]) k
theorem V.getN {M : XM} {d : Nat} {b : Nat × Nat} {pc : Nat} {L : List (Option Value)} {st : List Value} {S : XS} {im : XI} {Q : Option Value → XS → XI → Prop} {idx a ci j : Nat} {ty : FieldType} {fin : Bool} (hf : XF M.1.cls idx ci j ty fin) (hr : xref ci j = true) (hsh : S.1[a]? = some (.inl ci)) (hrm : S.2 a j = none) (hd : decode M.2.1 pc = .ok (.getfield idx, 3)) (k : V M d b (pc + 3) L (.null :: st) S im Q) : V M d b pc L (.ref a :: st) S im Q :=
  V.getf hf hsh hd (v := .null) (fun ads => by simp [xfv, hr, hrm, conc, va_rf]) k
theorem xfs_set {ads : Nat → Nat} {ci j : Nat} {rm rm' : Nat → Option Nat} {im im' : Nat → Int32} {v : Value} (hj : j < xnf ci) (hv : xfv ads ci rm' im' j = v) (ho : ∀ q, q ≠ j → xfv ads ci rm' im' q = xfv ads ci rm im q) : (xfs ads ci rm im).set j v = xfs ads ci rm' im' := by
  apply List.ext_getElem?
  intro i
  by_cases hi : i = j
  · subst hi
    rw [List.getElem?_set_self (by rw [xfs_len]; exact hj), xfs_get hj, hv]
  · rw [List.getElem?_set_ne (Ne.symm hi)]
    by_cases hl : i < xnf ci
    · rw [xfs_get hl, xfs_get hl, ho i hi]
    · rw [List.getElem?_eq_none (by rw [xfs_len]; omega), List.getElem?_eq_none (by rw [xfs_len]; omega)]
theorem V.putf {M : XM} {d : Nat} {b : Nat × Nat} {pc : Nat} {L : List (Option Value)} {st : List Value} {S : XS} {im : XI} {Q : Option Value → XS → XI → Prop} {idx a ci j : Nat} {ty : FieldType} {fin : Bool} (hf : XF M.1.cls idx ci j ty fin) (hfin : fin = true → M.1.name = "<init>" ∧ ∃ T N, vwCl[ci]? = some (M.1.cls, T, N)) {v : Value} (hn9 : ∀ ads, narrow ty (conc ads v) = conc ads v) (hfit : ∀ ads, fits ty (conc ads v) = true) (hsh : S.1[a]? = some (.inl ci)) (hd : decode M.2.1 pc = .ok (.putfield idx, 3)) {S' : XS} {im' : XI} (hs1 : S'.1 = S.1) (ho : ∀ q, q ≠ a → im' q = im q ∧ S'.2 q = S.2 q)
    (hv : ∀ ads, xfv ads ci (S'.2 a) (im' a) j = conc ads v) (hv2 : ∀ ads q, q ≠ j → xfv ads ci (S'.2 a) (im' a) q = xfv ads ci (S.2 a) (im a) q) (k : V M d b (pc + 3) L st S' im' Q) : V M d b pc L (v :: .ref a :: st) S im Q := by
  intro p l e R s m args below meth c D E A ads H locs cells slots n0 ls C hR hS hn hb1 hb2 hl
  obtain ⟨CC, T, N, h0, h1, h2, h3, h4, h5⟩ := hf
  have hx := xnf_of h0
  obtain ⟨hin0, ty0, hty0, hnm, -⟩ := xcl h0
  have hin : ∀ w ∈ u_ws CC T N, w ∈ xws M := fun w hw => List.mem_cons_of_mem _ (hin0 w hw)
  have hj : j < xnf ci := by rw [hx]; exact h1
  have hset : (xw E ads S im).set a (ads a, .inr (ci, (xfs ads ci (S.2 a) (im a)).set j (conc ads v))) = xw E ads S' im' :=
    xw_set hsh hs1 ho (by rw [xfs_set hj (hv ads) (hv2 ads)]; rfl)
  have go : ∀ (H1 : Heap) (locs1 : List Loc), H1.size = H.size → va_P D vwCl ((xw E ads S im).set a (ads a, .inr (ci, (xfs ads ci (S.2 a) (im a)).set j (conc ads v)))) H1 → va_D A ((xw E ads S im).set a (ads a, .inr (ci, (xfs ads ci (S.2 a) (im a)).set j (conc ads v)))) → va_S A s.heap H1 locs1 →
      W p l e R s m args below meth c H1 locs1 cells slots (MQ below (XQ D E A ads n0 Q) args s R.cells R.slots A) (F0 m (pc + 3) ls (st.map (conc ads))) := by
    intro H1 locs1 hz hP1 hD1 hS1
    rw [hset] at hP1 hD1
    exact k p l e R s m args below meth c D E A ads H1 locs1 cells slots n0 ls C ⟨hP1, hD1, fun i hi => by rw [hs1, hz]; exact hR.2.2 i hi⟩ hS1 (by rw [hs1, hz]; exact hn) hb1 hb2 hl
  have hap := va_apart (own := M.1.cls) C.1.2.2.2.2 hin ty0 hty0 hnm C.2.2.1.1 h0
  obtain ⟨r, g1, cell, q1, q2, q3, q4⟩ := hR.1 a _ (xw_get hsh)
  have hr : r = (CC, T, N) := Option.some.inj (g1.symm.trans h0)
  subst hr
  obtain ⟨hSl, hfc, kC, hkC, hkind⟩ := C.2.2.1.1.1 ci _ h0
  obtain ⟨cf, kf, fi, f, hi, hsl⟩ := hSl j h1
  have hlay := C.1.2.2.2.2 _ (hin _ (u_in_lay h1))
  have hst := (u_facts hfc hkC (u_lays C.1.2.2.2.2 hin h1) hi).1
  have hfl : j < (xfs ads ci (S.2 a) (im a)).length := by rw [xfs_len]; exact hj
  have fin2 : ∀ H1 : Heap, H1[ads a]? = some (cell.setSlot (D.2 ci j) (conc ads v)) → (∀ q, q ≠ ads a → H1[q]? = H[q]?) → va_P D vwCl ((xw E ads S im).set a (ads a, .inr (ci, (xfs ads ci (S.2 a) (im a)).set j (conc ads v)))) H1 := fun H1 e1 e3 =>
    hR.1.set hR.2.1 (xw_get hsh) ⟨_, h0, t_OB.to (V := updV (vp_V (xfs ads ci (S.2 a) (im a))) j (conc ads v)) ⟨_, e1, q2, q3, t_set q4 hap h1 (conc ads v)⟩ (fun j' _ => vp_updV_set hfl (conc ads v) j')⟩ e3
  have hslot : f.slot < cell.slots.size := by rw [hsl]; exact k2_hasslot (q4 j h1)
  have aA : A (ads a) := hR.2.1.2 a _ (xw_get hsh)
  have hnar := u_fits (args := args) hfc hkC hkind (u_lays C.1.2.2.2.2 hin h1) hi h3 (hn9 ads) (hfit ads)
  have hkn : cell.vm ≠ .unknown := by rw [q3]; exact fun h => by cases h
  have hfits : s.fitsSlot cell.cls cell.vm f.slot (conc ads v) = true := by rw [q2, q3]; exact hnar.2
  have hfinal : hasFlag f.accessFlags Acc.final = false ∨ (m.cls = cf ∧ meth.name = "<init>") := by
    unfold u_lay at hlay
    cases hfc2 : fin with
    | false =>
      rw [if_neg (by rw [h4, hfc2]; decide)] at hlay
      exact Or.inl (u_store hfc hkC hkind hlay hi h3 (hn9 ads) (hfit ads)).1
    | true =>
      rw [if_pos (by rw [h4, hfc2])] at hlay
      right
      obtain ⟨e1, T2, N2, e2⟩ := hfin hfc2
      refine ⟨?_, C.2.1.2.2.trans e1⟩
      have e3 : CC = M.1.cls := by rw [h0] at e2; exact congrArg Prod.fst (Option.some.inj e2)
      obtain ⟨_, _, c', _, _, _, -, -, hf', -, -, -, hown2, -⟩ := Cond.laysFinal_spec hlay
      have e4 : c' = cf := by have := hi.symm.trans hf'; simp at this; exact this.1.symm
      rw [h2, e3] at hown2
      rw [← e4]; exact Option.some.inj (C.1.2.2.2.1.symm.trans hown2)
  have hp8 : (H.setIfInBounds (ads a) (cell.setSlot f.slot (conc ads v))).size = H.size := by simp
  have hp7 : ∀ q, q ≠ ads a → (H.setIfInBounds (ads a) (cell.setSlot f.slot (conc ads v)))[q]? = H[q]? := by
    intro q hq
    simp [Array.getElem?_setIfInBounds, Ne.symm hq]
  have kk := go (H.setIfInBounds (ads a) (cell.setSlot f.slot (conc ads v))) (locs ++ [⟨ads a, f.slot⟩]) hp8
    (fin2 _ (by
      rw [← hsl]
      have ha : ads a < H.size := (Array.getElem?_eq_some_iff.mp q1).1
      simp [Array.getElem?_setIfInBounds, ha]) hp7) (hR.2.1.set (xw_get hsh)) (hS.put hp8 hp7 aA)
  rcases h5 with h5 | ⟨host, h5⟩
  · exact W.putf C.1.1 C.1.2.1 C.1.2.2.2.1 (C.1.2.2.2.2 _ (List.mem_cons_of_mem _ h5)) (by rw [h2] at hi; exact hi) hst hfinal q1 hkn hslot hnar.1 hfits rfl rfl hd kk
  · exact va_Wputf C.1.1 C.1.2.1 C.1.2.2.2.1 (va_Nw.use rfl (C.2.2.1.2.1.1 _ h5)) (by rw [h2] at hi; exact hi) hst hfinal q1 hkn hslot hnar.1 hfits rfl rfl hd kk
theorem V.putI {M : XM} {d : Nat} {b : Nat × Nat} {pc : Nat} {L : List (Option Value)} {st : List Value} {S : XS} {im : XI} {Q : Option Value → XS → XI → Prop} {idx a ci j : Nat} {fin : Bool} (hf : XF M.1.cls idx ci j .int fin) (hfin : fin = true → M.1.name = "<init>" ∧ ∃ T N, vwCl[ci]? = some (M.1.cls, T, N)) (hr : xref ci j = false) {x : Int32} (hsh : S.1[a]? = some (.inl ci)) (hd : decode M.2.1 pc = .ok (.putfield idx, 3)) (k : V M d b (pc + 3) L st S (xup im a j x) Q) : V M d b pc L (.int x :: .ref a :: st) S im Q :=
  V.putf hf hfin (fun _ => rfl) (fun _ => rfl) hsh hd rfl (fun q hq => ⟨by funext k'; simp [xup, hq], rfl⟩) (fun ads => by simp [xfv, hr, xup, conc]) (fun ads q hq => by simp [xfv, xup, hq]) k
theorem V.putZ {M : XM} {d : Nat} {b : Nat × Nat} {pc : Nat} {L : List (Option Value)} {st : List Value} {S : XS} {im : XI} {Q : Option Value → XS → XI → Prop} {idx a ci j : Nat} {fin : Bool} (hf : XF M.1.cls idx ci j .boolean fin) (hfin : fin = true → M.1.name = "<init>" ∧ ∃ T N, vwCl[ci]? = some (M.1.cls, T, N)) (hr : xref ci j = false) {x : Int32} (hz : x = 0 ∨ x = 1) (hsh : S.1[a]? = some (.inl ci)) (hd : decode M.2.1 pc = .ok (.putfield idx, 3)) (k : V M d b (pc + 3) L st S (xup im a j x) Q) : V M d b pc L (.int x :: .ref a :: st) S im Q :=
  V.putf hf hfin (fun _ => by rcases hz with rfl | rfl <;> rfl) (fun _ => by rcases hz with rfl | rfl <;> rfl) hsh hd rfl (fun q hq => ⟨by funext k'; simp [xup, hq], rfl⟩) (fun ads => by simp [xfv, hr, xup, conc]) (fun ads q hq => by simp [xfv, xup, hq]) k
theorem V.putR {M : XM} {d : Nat} {b : Nat × Nat} {pc : Nat} {L : List (Option Value)} {st : List Value} {S : XS} {im : XI} {Q : Option Value → XS → XI → Prop} {idx a a' ci j : Nat} {ty : FieldType} {fin : Bool} (hf : XF M.1.cls idx ci j ty fin) (hfin : fin = true → M.1.name = "<init>" ∧ ∃ T N, vwCl[ci]? = some (M.1.cls, T, N)) (hr : xref ci j = true) (hty : refKind ty = true) (hsh : S.1[a]? = some (.inl ci)) (hd : decode M.2.1 pc = .ok (.putfield idx, 3)) (k : V M d b (pc + 3) L st (S.1, xur S.2 a j (some a')) im Q) : V M d b pc L (.ref a' :: .ref a :: st) S im Q :=
  V.putf (S' := (S.1, xur S.2 a j (some a'))) (im' := im) hf hfin (fun _ => by cases ty <;> first | rfl | (simp [refKind] at hty)) (fun _ => by cases ty <;> first | rfl | (simp [refKind] at hty)) hsh hd rfl (fun q hq => ⟨rfl, by funext k'; simp [xur, hq]⟩) (fun ads => by simp [xfv, hr, xur, conc, va_rf]) (fun ads q hq => by simp [xfv, xur, hq]) k

