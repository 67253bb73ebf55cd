/-- from pc on, with these locals and this stack, the class in the world S1 i1 and the reference in S2 i2, the law comes to its end with true -/
def LV (Ln : Nat) (xs : Nat → Int32) (bud : Nat × Nat) (pc : Nat) (L : List (Option Value)) (st : List Value) (S1 : XS) (i1 : XI) (S2 : XS) (i2 : XI) : Prop :=
  ∀ (p : Program) (l : Launch) (e : Env) (s : State) (m : MethodId) (below : List Frame) (meth : Method) (c : Code) (b : Nat) (D : va_G) (E : Nat → ClassId) (ka na : Nat) (H : Heap) (locs : List Loc) (cells slots : Nat) (ls : Array Slot),
    LX p s m meth c b Ln xs D E ka na → L2 D (LA s) (xw E (LA1 s.heap.size ka na) S1 i1) (xw E (LA2 s.heap.size ka na) S2 i2) H → va_S (LA s) s.heap H locs → H.size = s.heap.size + S1.1.length + S2.1.length → cells + bud.1 ≤ 600000 → slots + bud.2 ≤ 7302250 → xl ls L (LA0 s.heap.size b) →
    W p l e room_1 s m #[Value.ref b] below meth c H locs cells slots (lw_Z below #[Value.ref b] s) (F0 m pc ls (st.map (conc (LA0 s.heap.size b))))
section LVR
variable {Ln : Nat} {xs : Nat → Int32} {bud : Nat × Nat} {pc : Nat} {L : List (Option Value)} {st : List Value} {S1 S2 : XS} {i1 i2 : XI}
theorem LV.iconst {n : Int} {v : Int32} (hd : decode code pc = .ok (.iconst n, 1)) (hv : Int32.ofInt n = v) (k : LV Ln xs bud (pc + 1) L (.int v :: st) S1 i1 S2 i2) : LV Ln xs bud pc L st S1 i1 S2 i2 := by
  intro p l e s m below meth c b D E ka na H locs cells slots ls C hW hS hz hb1 hb2 hl
  exact lv_iconst C.1.1 C.1.2.1 hd hv (k p l e s m below meth c b D E ka na H locs cells slots ls C hW hS hz hb1 hb2 hl)
theorem LV.bipush {n : Int} {v : Int32} (hd : decode code pc = .ok (.bipush n, 2)) (hv : (Int8.ofInt n).toInt32 = v) (k : LV Ln xs bud (pc + 2) L (.int v :: st) S1 i1 S2 i2) : LV Ln xs bud pc L st S1 i1 S2 i2 := by
  intro p l e s m below meth c b D E ka na H locs cells slots ls C hW hS hz hb1 hb2 hl
  exact lv_bipush C.1.1 C.1.2.1 hd hv (k p l e s m below meth c b D E ka na H locs cells slots ls C hW hS hz hb1 hb2 hl)
theorem LV.ldc2 {idx : Nat} {v : Int64} (hw : Cond.constantLong R_law idx v ∈ xgood) (hd : decode code pc = .ok (.ldc2_w idx, 3)) (k : LV Ln xs bud (pc + 3) L (.long v :: st) S1 i1 S2 i2) : LV Ln xs bud pc L st S1 i1 S2 i2 := by
  intro p l e s m below meth c b D E ka na H locs cells slots ls C hW hS hz hb1 hb2 hl
  exact lv_ldc2 C.1.1 C.1.2.1 C.1.2.2.2.2.1 (C.1.2.2.2.2.2.1 _ (List.mem_filter.mp hw).1) hd (k p l e s m below meth c b D E ka na H locs cells slots ls C hW hS hz hb1 hb2 hl)
theorem LV.iload_n {i : Nat} {f : Fin 4} {x : Int32} (hd : decode code pc = .ok (.iload_n f, 1)) (hi : (f : Nat) = i) (hx : L[i]? = some (some (.int x))) (k : LV Ln xs bud (pc + 1) L (.int x :: st) S1 i1 S2 i2) : LV Ln xs bud pc L st S1 i1 S2 i2 := by
  intro p l e s m below meth c b D E ka na H locs cells slots ls C hW hS hz hb1 hb2 hl
  exact lv_iload_n C.1.1 C.1.2.1 hd hi (hl.2.2 _ _ hx) (k p l e s m below meth c b D E ka na H locs cells slots ls C hW hS hz hb1 hb2 hl)
theorem LV.aload_n {i : Nat} {f : Fin 4} {x : Nat} (hd : decode code pc = .ok (.aload_n f, 1)) (hi : (f : Nat) = i) (hx : L[i]? = some (some (.ref x))) (k : LV Ln xs bud (pc + 1) L (.ref x :: st) S1 i1 S2 i2) : LV Ln xs bud pc L st S1 i1 S2 i2 := by
  intro p l e s m below meth c b D E ka na H locs cells slots ls C hW hS hz hb1 hb2 hl
  exact lv_aload_n C.1.1 C.1.2.1 hd hi (hl.2.2 _ _ hx) (k p l e s m below meth c b D E ka na H locs cells slots ls C hW hS hz hb1 hb2 hl)
theorem LV.istore_n {i : Nat} {f : Fin 4} {x : Int32} (hd : decode code pc = .ok (.istore_n f, 1)) (hi : (f : Nat) = i) (hlt : Nat.blt i L.length = true) (hsf : xsafe L i = true) (k : LV Ln xs bud (pc + 1) (L.set i (some (.int x))) st S1 i1 S2 i2) : LV Ln xs bud pc L (.int x :: st) S1 i1 S2 i2 := by
  intro p l e s m below meth c b D E ka na H locs cells slots ls C hW hS hz hb1 hb2 hl
  have hlt : i < L.length := Nat.le_of_ble_eq_true hlt
  exact lv_istore_n C.1.1 C.1.2.1 hd hi (xl_lv hl) hlt rfl (fun ls' hl' => k p l e s m below meth c b D E ka na H locs cells slots ls' C hW hS hz hb1 hb2 (xl_set hlt hsf hl'))
theorem LV.astore_n {i : Nat} {f : Fin 4} {x : Nat} (hd : decode code pc = .ok (.astore_n f, 1)) (hi : (f : Nat) = i) (hlt : Nat.blt i L.length = true) (hsf : xsafe L i = true) (k : LV Ln xs bud (pc + 1) (L.set i (some (.ref x))) st S1 i1 S2 i2) : LV Ln xs bud pc L (.ref x :: st) S1 i1 S2 i2 := by
  intro p l e s m below meth c b D E ka na H locs cells slots ls C hW hS hz hb1 hb2 hl
  have hlt : i < L.length := Nat.le_of_ble_eq_true hlt
  exact lv_astore_n C.1.1 C.1.2.1 hd hi (xl_lv hl) hlt rfl (fun ls' hl' => k p l e s m below meth c b D E ka na H locs cells slots ls' C hW hS hz hb1 hb2 (xl_set hlt hsf hl'))
theorem LV.iinc {i : Nat} {n : Int} {x v : Int32} (hd : decode code pc = .ok (.iinc i n, 3)) (hx : L[i]? = some (some (.int x))) (hv : x + Int32.ofInt n = v) (hsf : xsafe L i = true) (k : LV Ln xs bud (pc + 3) (L.set i (some (.int v))) st S1 i1 S2 i2) : LV Ln xs bud pc L st S1 i1 S2 i2 := by
  intro p l e s m below meth c b D E ka na H locs cells slots ls C hW hS hz hb1 hb2 hl
  have hlt : i < L.length := (List.getElem?_eq_some_iff.mp hx).1
  obtain ⟨q, hq⟩ := List.getElem?_of_mem (xlp_mem (ads := LA0 s.heap.size b) (q := (i, Value.int x)).mpr ⟨_, hx, rfl⟩)
  exact lv_iinc C.1.1 C.1.2.1 hd (xl_lv hl) hq hv hlt rfl (fun ls' hl' => k p l e s m below meth c b D E ka na H locs cells slots ls' C hW hS hz hb1 hb2 (xl_set hlt hsf hl'))
theorem LV.iadd {x y : Int32} (hd : decode code pc = .ok (.iadd, 1)) (k : LV Ln xs bud (pc + 1) L (.int (x + y) :: st) S1 i1 S2 i2) : LV Ln xs bud pc L (.int y :: .int x :: st) S1 i1 S2 i2 := by
  intro p l e s m below meth c b D E ka na H locs cells slots ls C hW hS hz hb1 hb2 hl
  exact lv_iadd C.1.1 C.1.2.1 hd (k p l e s m below meth c b D E ka na H locs cells slots ls C hW hS hz hb1 hb2 hl)
theorem LV.isub {x y : Int32} (hd : decode code pc = .ok (.isub, 1)) (k : LV Ln xs bud (pc + 1) L (.int (x - y) :: st) S1 i1 S2 i2) : LV Ln xs bud pc L (.int y :: .int x :: st) S1 i1 S2 i2 := by
  intro p l e s m below meth c b D E ka na H locs cells slots ls C hW hS hz hb1 hb2 hl
  exact lv_isub C.1.1 C.1.2.1 hd (k p l e s m below meth c b D E ka na H locs cells slots ls C hW hS hz hb1 hb2 hl)
theorem LV.iand {x y : Int32} (hd : decode code pc = .ok (.iand, 1)) (k : LV Ln xs bud (pc + 1) L (.int (x &&& y) :: st) S1 i1 S2 i2) : LV Ln xs bud pc L (.int y :: .int x :: st) S1 i1 S2 i2 := by
  intro p l e s m below meth c b D E ka na H locs cells slots ls C hW hS hz hb1 hb2 hl
  exact lv_iand C.1.1 C.1.2.1 hd (k p l e s m below meth c b D E ka na H locs cells slots ls C hW hS hz hb1 hb2 hl)
theorem LV.i2l {x : Int32} (hd : decode code pc = .ok (.i2l, 1)) (k : LV Ln xs bud (pc + 1) L (.long x.toInt64 :: st) S1 i1 S2 i2) : LV Ln xs bud pc L (.int x :: st) S1 i1 S2 i2 := by
  intro p l e s m below meth c b D E ka na H locs cells slots ls C hW hS hz hb1 hb2 hl
  exact lv_i2l C.1.1 C.1.2.1 hd rfl (k p l e s m below meth c b D E ka na H locs cells slots ls C hW hS hz hb1 hb2 hl)
theorem LV.lshl {x : Int64} {y : Int32} (hd : decode code pc = .ok (.lshl, 1)) (k : LV Ln xs bud (pc + 1) L (.long (x <<< (y.toInt64 &&& 63)) :: st) S1 i1 S2 i2) : LV Ln xs bud pc L (.int y :: .long x :: st) S1 i1 S2 i2 := by
  intro p l e s m below meth c b D E ka na H locs cells slots ls C hW hS hz hb1 hb2 hl
  exact lv_lshl C.1.1 C.1.2.1 hd rfl (k p l e s m below meth c b D E ka na H locs cells slots ls C hW hS hz hb1 hb2 hl)
theorem LV.land {x y : Int64} (hd : decode code pc = .ok (.land, 1)) (k : LV Ln xs bud (pc + 1) L (.long (x &&& y) :: st) S1 i1 S2 i2) : LV Ln xs bud pc L (.long y :: .long x :: st) S1 i1 S2 i2 := by
  intro p l e s m below meth c b D E ka na H locs cells slots ls C hW hS hz hb1 hb2 hl
  exact lv_land C.1.1 C.1.2.1 hd (k p l e s m below meth c b D E ka na H locs cells slots ls C hW hS hz hb1 hb2 hl)
theorem LV.lor {x y : Int64} (hd : decode code pc = .ok (.lor, 1)) (k : LV Ln xs bud (pc + 1) L (.long (x ||| y) :: st) S1 i1 S2 i2) : LV Ln xs bud pc L (.long y :: .long x :: st) S1 i1 S2 i2 := by
  intro p l e s m below meth c b D E ka na H locs cells slots ls C hW hS hz hb1 hb2 hl
  exact lv_lor C.1.1 C.1.2.1 hd (k p l e s m below meth c b D E ka na H locs cells slots ls C hW hS hz hb1 hb2 hl)
theorem LV.dup {v : Value} (hd : decode code pc = .ok (.dup, 1)) (hc : v.category = 1) (k : LV Ln xs bud (pc + 1) L (v :: v :: st) S1 i1 S2 i2) : LV Ln xs bud pc L (v :: st) S1 i1 S2 i2 := by
  intro p l e s m below meth c b D E ka na H locs cells slots ls C hW hS hz hb1 hb2 hl
  exact lv_dup C.1.1 C.1.2.1 hd (by rw [conc_cat]; exact hc) (k p l e s m below meth c b D E ka na H locs cells slots ls C hW hS hz hb1 hb2 hl)
theorem LV.goto {off : Int} {tgt : Nat} (hd : decode code pc = .ok (.goto off, 3)) (ht : (pc : Int) + off = (tgt : Int)) (k : LV Ln xs bud tgt L st S1 i1 S2 i2) : LV Ln xs bud pc L st S1 i1 S2 i2 := by
  intro p l e s m below meth c b D E ka na H locs cells slots ls C hW hS hz hb1 hb2 hl
  exact lv_goto C.1.1 C.1.2.1 hd ht (k p l e s m below meth c b D E ka na H locs cells slots ls C hW hS hz hb1 hb2 hl)
theorem LV.icmp_eq {x y : Int32} {off : Int} {tgt : Nat} (hd : decode code pc = .ok (.if_icmp .eq off, 3)) (ht : (pc : Int) + off = (tgt : Int)) (kt : x = y → LV Ln xs bud tgt L st S1 i1 S2 i2) (kf : ¬ x = y → LV Ln xs bud (pc + 3) L st S1 i1 S2 i2) : LV Ln xs bud pc L (.int y :: .int x :: st) S1 i1 S2 i2 := by
  intro p l e s m below meth c b D E ka na H locs cells slots ls C hW hS hz hb1 hb2 hl
  exact lv_icmp_eq C.1.1 C.1.2.1 hd ht (fun h => kt h p l e s m below meth c b D E ka na H locs cells slots ls C hW hS hz hb1 hb2 hl) (fun h => kf h p l e s m below meth c b D E ka na H locs cells slots ls C hW hS hz hb1 hb2 hl)
theorem LV.icmp_gt {x y : Int32} {off : Int} {tgt : Nat} (hd : decode code pc = .ok (.if_icmp .gt off, 3)) (ht : (pc : Int) + off = (tgt : Int)) (kt : y < x → LV Ln xs bud tgt L st S1 i1 S2 i2) (kf : ¬ y < x → LV Ln xs bud (pc + 3) L st S1 i1 S2 i2) : LV Ln xs bud pc L (.int y :: .int x :: st) S1 i1 S2 i2 := by
  intro p l e s m below meth c b D E ka na H locs cells slots ls C hW hS hz hb1 hb2 hl
  exact lv_icmp_gt C.1.1 C.1.2.1 hd ht (fun h => kt h p l e s m below meth c b D E ka na H locs cells slots ls C hW hS hz hb1 hb2 hl) (fun h => kf h p l e s m below meth c b D E ka na H locs cells slots ls C hW hS hz hb1 hb2 hl)
theorem LV.tableIn {dflt lo hi : Int} {offs : Array Int} {len : Nat} {x : Int32} {off : Int} {tgt : Nat} (hd : decode code pc = .ok (.tableswitch dflt lo hi offs, len)) (h1 : ¬ x.toInt < lo) (h2 : ¬ hi < x.toInt) (ho : offs[(x.toInt - lo).toNat]? = some off) (ht : (pc : Int) + off = (tgt : Int)) (k : LV Ln xs bud tgt L st S1 i1 S2 i2) : LV Ln xs bud pc L (.int x :: st) S1 i1 S2 i2 := by
  intro p l e s m below meth c b D E ka na H locs cells slots ls C hW hS hz hb1 hb2 hl
  exact lv_tableIn C.1.1 C.1.2.1 hd h1 h2 ho ht (k p l e s m below meth c b D E ka na H locs cells slots ls C hW hS hz hb1 hb2 hl)
theorem LV.tableOut {dflt lo hi : Int} {offs : Array Int} {len : Nat} {x : Int32} {tgt : Nat} (hd : decode code pc = .ok (.tableswitch dflt lo hi offs, len)) (h : x.toInt < lo ∨ hi < x.toInt) (ht : (pc : Int) + dflt = (tgt : Int)) (k : LV Ln xs bud tgt L st S1 i1 S2 i2) : LV Ln xs bud pc L (.int x :: st) S1 i1 S2 i2 := by
  intro p l e s m below meth c b D E ka na H locs cells slots ls C hW hS hz hb1 hb2 hl
  exact lv_tableOut C.1.1 C.1.2.1 hd h ht (k p l e s m below meth c b D E ka na H locs cells slots ls C hW hS hz hb1 hb2 hl)
theorem LV.slen (hd : decode code pc = .ok (.arraylength, 1)) (k : LV Ln xs bud (pc + 1) L (.int (nI Ln) :: st) S1 i1 S2 i2) : LV Ln xs bud pc L (.ref 0 :: st) S1 i1 S2 i2 := by
  intro p l e s m below meth c b D E ka na H locs cells slots ls C hW hS hz hb1 hb2 hl
  exact va_slen C.1.1 C.1.2.1 C.1.2.2.2.2.2.2.1 C.1.2.2.2.2.2.2.2.1 (Nat.not_le.mpr C.1.2.2.2.2.2.2.2.1) hS hd (k p l e s m below meth c b D E ka na H locs cells slots ls C hW hS hz hb1 hb2 hl)
theorem LV.sld {i : Nat} (hd : decode code pc = .ok (.iaload, 1)) (hi : i < Ln) (hL : Ln ≤ 3072) (k : LV Ln xs bud (pc + 1) L (.int (xs i) :: st) S1 i1 S2 i2) : LV Ln xs bud pc L (.int (nI i) :: .ref 0 :: st) S1 i1 S2 i2 := by
  intro p l e s m below meth c b D E ka na H locs cells slots ls C hW hS hz hb1 hb2 hl
  have kk := k p l e s m below meth c b D E ka na H locs cells slots ls C hW hS hz hb1 hb2 hl
  refine va_sld C.1.1 C.1.2.1 C.1.2.2.2.2.2.2.1 C.1.2.2.2.2.2.2.2.1 (Nat.not_le.mpr C.1.2.2.2.2.2.2.2.1) hS (vp_in_nI hi (by omega)) hd ?_
  rw [nI_clamp (by omega)]
  exact kk
theorem LV.ret (hd : decode code pc = .ok (.ireturn, 1)) : LV Ln xs bud pc L [.int 1] S1 i1 S2 i2 := by
  intro p l e s m below meth c b D E ka na H locs cells slots ls C hW hS hz hb1 hb2 hl
  exact va_forget hS.2.2 (W.widen (k := 600000) (n := 7302250) (by omega) (by omega) (lw_ret C.1.1 C.1.2.1 C.1.2.2.1 C.1.2.2.2.2.2.2.2.2.1 hd))
/-- script[i + k] onto the stack -/
theorem LV.ld {i k : Nat} {n : Int} (hL4 : L[0]? = some (some (.ref 0)) ∧ L[3]? = some (some (.int (nI i)))) (hi : i + 6 ≤ Ln) (hL : Ln ≤ 3072) (hk : k < 6) (hn : Int32.ofInt n = nI k) (h0 : decode code pc = .ok (.aload_n 0, 1)) (h1 : decode code (pc + 1) = .ok (.iload_n 3, 1)) (h2 : decode code (pc + 2) = .ok (.iconst n, 1)) (h3 : decode code (pc + 3) = .ok (.iadd, 1)) (h4 : decode code (pc + 4) = .ok (.iaload, 1))
    (kk : LV Ln xs bud (pc + 5) L (.int (xs (i + k)) :: st) S1 i1 S2 i2) : LV Ln xs bud pc L st S1 i1 S2 i2 := by
  refine LV.aload_n h0 rfl hL4.1 ?_
  refine LV.iload_n h1 rfl hL4.2 ?_
  refine LV.iconst h2 hn ?_
  refine LV.iadd h3 ?_
  rw [nI_add]
  exact LV.sld h4 (by omega) hL kk
theorem LV.call1 {bud' b1 : Nat × Nat} {As As' : List Value} {P : Option Value → XS → XI → Prop} {K : Int32 → XS → XI → Prop} {M2 : XM} {idx n d ci N : Nat} {T : u_T} (hL4 : L.length = 4) (hv : XV M2 n) (hlk : Cond.methodLink R_law idx M2.1 ∈ xgood) (hin : Cond.instanceMethod M2.1 ∈ xgood ∧ Cond.selects M2.1.cls M2.1 M2.1 ∈ xgood) (hc : vwCl[ci]? = some (M2.1.cls, T, N)) (hsh : S1.1[0]? = some (.inl ci)) (hn2 : As.length = n) (hAs : As.reverse ++ .ref 1 :: st = As') (hst : Nat.ble (st.map fun v => v.category).sum 8 = true) (hd : decode code pc = .ok (.invokevirtual idx, 3)) (hdp : Nat.ble d 1200 = true) (hcon : ∀ ads : Nat → Nat, As.map (conc ads) = As)
    (hads : ∀ n ka na i, i < b1.1 → LA1 n ka na (S1.1.length + i) = n + S1.1.length + S2.1.length + i) (hbud : b1.1 + bud'.1 ≤ bud.1 ∧ b1.2 + bud'.2 ≤ bud.2)
    (hsp : Spec M2 d b1 (.ref 0 :: As) S1 i1 P) (hP : ∀ r S' im', P r S' im' → ∃ x : Int32, r = some (.int x) ∧ K x S' im')
    (k : ∀ x S' im', K x S' im' → LV Ln xs bud' (pc + 3) L (.int x :: st) S' im' S2 i2) : LV Ln xs bud pc L As' S1 i1 S2 i2 := by
  intro p l e s m below meth c b D E ka na H locs cells slots ls C hW hS hz hb1 hb2 hl
  subst hAs
  have hs : ((As.reverse ++ .ref 1 :: st).map (conc (LA0 s.heap.size b))) = As.reverse ++ .ref (LA1 s.heap.size ka na 0) :: st.map (conc (LA0 s.heap.size b)) := by
    rw [List.map_append, List.map_reverse, hcon, List.map_cons]
    rfl
  rw [hs]
  refine lcall C.1 C.2.1 C.2.2.1 C.2.2.2.1 hW hS hv hlk hin hc hsh hn2 (by rw [conc_cats]; exact hst) hd hdp hcon (fun i hi => by rw [hads _ _ _ i hi, hz]) (by omega) (by omega) (hl.1.trans hL4) hsp (fun r S' im' H1 locs1 hp h2 h3 h4 => ?_)
  obtain ⟨x, rfl, hk⟩ := hP r S' im' hp
  exact k x S' im' hk p l e s m below meth c b D E ka na H1 locs1 (cells + b1.1) (slots + b1.2) ls C h2 h4 (by omega) (by omega) (by omega) hl
theorem LV.call2 {bud' b1 : Nat × Nat} {As As' : List Value} {P : Option Value → XS → XI → Prop} {K : Int32 → XS → XI → Prop} {M2 : XM} {idx n d ci N : Nat} {T : u_T} (hL4 : L.length = 4) (hv : XV M2 n) (hlk : Cond.methodLink R_law idx M2.1 ∈ xgood) (hin : Cond.instanceMethod M2.1 ∈ xgood ∧ Cond.selects M2.1.cls M2.1 M2.1 ∈ xgood) (hc : vwCl[ci]? = some (M2.1.cls, T, N)) (hsh : S2.1[0]? = some (.inl ci)) (hn2 : As.length = n) (hAs : As.reverse ++ .ref 2 :: st = As') (hst : Nat.ble (st.map fun v => v.category).sum 8 = true) (hd : decode code pc = .ok (.invokevirtual idx, 3)) (hdp : Nat.ble d 1200 = true) (hcon : ∀ ads : Nat → Nat, As.map (conc ads) = As)
    (hads : ∀ n ka na i, i < b1.1 → LA2 n ka na (S2.1.length + i) = n + S1.1.length + S2.1.length + i) (hbud : b1.1 + bud'.1 ≤ bud.1 ∧ b1.2 + bud'.2 ≤ bud.2)
    (hsp : Spec M2 d b1 (.ref 0 :: As) S2 i2 P) (hP : ∀ r S' im', P r S' im' → ∃ x : Int32, r = some (.int x) ∧ K x S' im')
    (k : ∀ x S' im', K x S' im' → LV Ln xs bud' (pc + 3) L (.int x :: st) S1 i1 S' im') : LV Ln xs bud pc L As' S1 i1 S2 i2 := by
  intro p l e s m below meth c b D E ka na H locs cells slots ls C hW hS hz hb1 hb2 hl
  subst hAs
  have hs : ((As.reverse ++ .ref 2 :: st).map (conc (LA0 s.heap.size b))) = As.reverse ++ .ref (LA2 s.heap.size ka na 0) :: st.map (conc (LA0 s.heap.size b)) := by
    rw [List.map_append, List.map_reverse, hcon, List.map_cons]
    rfl
  rw [hs]
  refine lcall C.1 C.2.1 C.2.2.1 C.2.2.2.2 hW.sw hS hv hlk hin hc hsh hn2 (by rw [conc_cats]; exact hst) hd hdp hcon (fun i hi => by rw [hads _ _ _ i hi, hz]) (by omega) (by omega) (hl.1.trans hL4) hsp (fun r S' im' H1 locs1 hp h2 h3 h4 => ?_)
  obtain ⟨x, rfl, hk⟩ := hP r S' im' hp
  exact k x S' im' hk p l e s m below meth c b D E ka na H1 locs1 (cells + b1.1) (slots + b1.2) ls C h2.sw h4 (by omega) (by omega) (by omega) hl
end LVR
