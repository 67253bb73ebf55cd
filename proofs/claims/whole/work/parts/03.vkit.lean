-- ===== my own layer: a uniform world over the kit's rows; every cell by its number (in the order of making), ints and references apart =====
abbrev XM : Type := MethodName × ByteArray × Nat × Option FieldType
abbrev XK : Type := Nat ⊕ Nat ⊕ (Nat × Nat)
abbrev XS : Type := List XK × (Nat → Nat → Option Nat)
abbrev XI : Type := Nat → Nat → Int32
def xgood : List Cond := lw_tbl.filter goodWord
def xnestW : Cond → Bool
  | .fieldLinkNest .. => true
  | .methodLinkNest .. => true
  | _ => false
def xnest : List Cond := tables_1.filter xnestW
theorem xg {w : Cond} (i : Nat) (h : tables_1[i]? = some w) (hg : goodWord w = true) : w ∈ xgood :=
  List.mem_filter.mpr ⟨List.mem_append_right _ (List.mem_of_getElem? h), hg⟩
theorem xgs {w : Cond} (i : Nat) (h : (k2_sels lw_privs)[i]? = some w) (hg : goodWord w = true) : w ∈ xgood :=
  List.mem_filter.mpr ⟨List.mem_append_left _ (List.mem_of_getElem? h), hg⟩
theorem xnx {w : Cond} (i : Nat) (h : tables_1[i]? = some w) (hg : xnestW w = true) : w ∈ xnest :=
  List.mem_filter.mpr ⟨List.mem_of_getElem? h, hg⟩
def xws (M : XM) : List Cond := Cond.code M.1 M.2.1 M.2.2.1 M.2.2.2 :: xgood
theorem xgoodIn {M : XM} {ws : List Cond} (h : ∀ w ∈ ws, w ∈ xgood) : GoodIn (xws M) ws := fun w hw => ⟨List.mem_cons_of_mem _ (h w hw), good_of_word (List.mem_filter.mp (h w hw)).2⟩
def xrm (d : Nat) (b : Nat × Nat) : Room := { frames := d, cells := b.1, slots := b.2, locals := 64 * d }
def conc (ads : Nat → Nat) : Value → Value
  | .ref k => .ref (ads k)
  | v => v
theorem conc_cat (ads : Nat → Nat) (v : Value) : (conc ads v).category = v.category := by cases v <;> rfl
theorem conc_cats (ads : Nat → Nat) (st : List Value) : ((st.map (conc ads)).map fun v => v.category) = st.map fun v => v.category := by
  induction st with
  | nil => rfl
  | cons a l ih => simp only [List.map_cons, conc_cat, ih]
-- words that hold of a state, not by place in the tables
def XN (U : State) : Prop := (∀ w ∈ xnest, va_Nw w U) ∧ va_AO RX4 U ∧ va_AO RX0 U ∧ va_AO RX7 U
theorem XN.warm {s U : State} (hW : s.WarmedH U.vm) (h : XN s) : XN U := by
  refine ⟨fun w hw => ?_, h.2.1.moved hW.alike, h.2.2.1.moved hW.alike, h.2.2.2.moved hW.alike⟩
  have h1 := h.1 w hw
  have hk := (List.mem_filter.mp hw).2
  cases w <;> first | exact va_Nw.warmF hW h1 | exact va_Nw.warmM hW h1 | (simp [xnestW] at hk)
theorem XN.same {s U : State} (hv : s.vm = U.vm) (h : XN s) : XN U := by
  have hA : s.vm.Alike U.vm := by rw [← hv]; exact Vm.Alike.refl _
  refine ⟨fun w hw => ?_, h.2.1.moved hA, h.2.2.1.moved hA, h.2.2.2.moved hA⟩
  have h1 := h.1 w hw
  have hk := (List.mem_filter.mp hw).2
  cases w <;> first | exact va_Nw.same rfl hv h1 | (simp [xnestW] at hk)
-- the two tables of the class
def kab : Nat → Int32 := fun j => match j with
  | 0 => -1 | 1 => 0 | 2 => 0 | 3 => 0 | 4 => 1 | 5 => 2 | _ => 0
def nms : Nat → Int32 := fun j => match j with
  | 0 => 114 | 1 => 115 | 2 => 116 | 3 => 112 | 4 => 111 | _ => 108
def xKA : Nat := 1000000
def xNA : Nat := 1000001
def XT (ads : Nat → Nat) (A : Nat → Prop) (U : State) (H : Heap) : Prop :=
  va_Z RX9 "KIND_ABOVE" "[I" (.ref (ads xKA)) A U H ∧ va_T .int (ads xKA) 7 (fun j => .int (kab j)) A U H ∧ va_Z RX9 "NAMES" "[C" (.ref (ads xNA)) A U H ∧ va_T .char (ads xNA) 6 (fun j => .int (nms j)) A U H
theorem XT.go {ads : Nat → Nat} {A : Nat → Prop} {u U : State} {H H1 : Heap} (h : XT ads A u H) (hvm : u.vm.Alike U.vm) (hq : ∀ a : Nat, a < H.size → ¬ A a → H1[a]? = H[a]?) : XT ads A U H1 :=
  ⟨(h.1.kept hq).moved hvm, (h.2.1.kept hq).moved hvm, (h.2.2.1.kept hq).moved hvm, (h.2.2.2.kept hq).moved hvm⟩
-- cells
def xrefs : List (List Bool) := [[], [true, true], [true, true, true, true, true, true], [false, true, true], [], [true, true], [true], [true], [true], [true, true, true, true, true, true, true], [true, true, true, false, true, false, false, false, false, true, true, true, false, true, false, false, true, true, true, true]]
def xref (ci j : Nat) : Bool := (((xrefs[ci]?).getD [])[j]?).getD false
def xnf (ci : Nat) : Nat := ((vwCl[ci]?).map (fun q => q.2.2)).getD 0
def xfv (ads : Nat → Nat) (ci : Nat) (rm : Nat → Option Nat) (im : Nat → Int32) (j : Nat) : Value := if xref ci j = true then va_rf ((rm j).map ads) else .int (im j)
def xfs (ads : Nat → Nat) (ci : Nat) (rm : Nat → Option Nat) (im : Nat → Int32) : List Value := (List.range (xnf ci)).map (xfv ads ci rm im)
def xcell (E : Nat → ClassId) (ads : Nat → Nat) (rm : Nat → Option Nat) (im : Nat → Int32) : XK → va_E
  | .inl ci => .inr (ci, xfs ads ci rm im)
  | .inr (.inl n) => .inl (E 0, (n, .inl im))
  | .inr (.inr (t, n)) => .inl (E (t + 1), (n, .inr (.inr (.inr (.inr (fun j => (rm j).map ads))))))
def xw (E : Nat → ClassId) (ads : Nat → Nat) (S : XS) (im : XI) : va_W := S.1.mapIdx (fun k sh => (ads k, xcell E ads (S.2 k) (im k) sh))
def xtys (E : Nat → ClassId) : List (ClassId × FieldType) := [(E 0, .int), (E 1, .object RX4), (E 2, .object RX0), (E 3, .object RX7)]
def xel : Nat → String
  | 0 => RX4
  | 1 => RX0
  | _ => RX7
theorem xtys_get {E : Nat → ClassId} {t : Nat} (h : t < 3) : (xtys E)[t + 1]? = some (E (t + 1), .object (xel t)) := by
  match t, h with
  | 0, _ => rfl
  | 1, _ => rfl
  | 2, _ => rfl
theorem xnf_of {ci N : Nat} {C : String} {T : u_T} (h : vwCl[ci]? = some (C, T, N)) : xnf ci = N := by simp [xnf, h]
theorem xfs_len {ads : Nat → Nat} {ci : Nat} {rm : Nat → Option Nat} {im : Nat → Int32} : (xfs ads ci rm im).length = xnf ci := by simp [xfs]
theorem xfs_get {ads : Nat → Nat} {ci j : Nat} {rm : Nat → Option Nat} {im : Nat → Int32} (h : j < xnf ci) : (xfs ads ci rm im)[j]? = some (xfv ads ci rm im j) := by
  simp [xfs, h]
theorem xw_get {E : Nat → ClassId} {ads : Nat → Nat} {S : XS} {im : XI} {a : Nat} {k : XK} (h : S.1[a]? = some k) : (xw E ads S im)[a]? = some (ads a, xcell E ads (S.2 a) (im a) k) := by
  simp [xw, List.getElem?_mapIdx, h]
theorem xw_len {E : Nat → ClassId} {ads : Nat → Nat} {S : XS} {im : XI} : (xw E ads S im).length = S.1.length := by simp [xw]
theorem xw_set {E : Nat → ClassId} {ads : Nat → Nat} {S S' : XS} {im im' : XI} {a : Nat} {k : XK} (h : S.1[a]? = some k) (h1 : S'.1 = S.1) (ho : ∀ q, q ≠ a → im' q = im q ∧ S'.2 q = S.2 q) {v : va_E} (hv : v = xcell E ads (S'.2 a) (im' a) k) :
    (xw E ads S im).set a (ads a, v) = xw E ads S' im' := by
  subst hv
  apply List.ext_getElem?
  intro i
  have hl : a < (xw E ads S im).length := by rw [xw_len]; exact (List.getElem?_eq_some_iff.mp h).1
  by_cases hi : i = a
  · subst hi
    rw [List.getElem?_set_self hl]
    exact (xw_get (by rw [h1]; exact h)).symm
  · rw [List.getElem?_set_ne (Ne.symm hi)]
    simp only [xw, List.getElem?_mapIdx, h1, (ho i hi).1, (ho i hi).2]
def xpush (S : XS) (k : XK) : XS := (S.1 ++ [k], fun a j => if a = S.1.length then none else S.2 a j)
def xz (im : XI) (n : Nat) : XI := fun a j => if a = n then 0 else im a j
theorem xw_push {E : Nat → ClassId} {ads : Nat → Nat} {S : XS} {im : XI} {k : XK} : xw E ads (xpush S k) (xz im S.1.length) = xw E ads S im ++ [(ads S.1.length, xcell E ads (fun _ => none) (fun _ => 0) k)] := by
  apply List.ext_getElem?
  intro i
  by_cases hi : i < S.1.length
  · rw [List.getElem?_append_left (by rw [xw_len]; exact hi)]
    have hne : ¬ i = S.1.length := Nat.ne_of_lt hi
    have hz : xz im S.1.length i = im i := by funext j; simp [xz, hne]
    simp only [xw, xpush, List.getElem?_mapIdx, List.getElem?_append_left hi, hne, if_false, hz]
  · rw [List.getElem?_append_right (by rw [xw_len]; omega), xw_len]
    by_cases he : i = S.1.length
    · subst he
      have hz : xz im S.1.length S.1.length = fun _ => 0 := by funext j; simp [xz]
      simp only [xw, xpush, List.getElem?_mapIdx, Nat.sub_self, List.getElem?_concat_length, if_true, Option.map_some, List.getElem?_cons_zero, hz]
    · have h1 : (xpush S k).1[i]? = none := by
        apply List.getElem?_eq_none
        simp only [xpush, List.length_append, List.length_singleton]; omega
      simp only [xw, List.getElem?_mapIdx, h1, Option.map_none]
      rw [List.getElem?_eq_none]
      simp only [List.length_singleton]; omega
def xup (im : XI) (a k : Nat) (v : Int32) : XI := fun a' k' => if a' = a ∧ k' = k then v else im a' k'
def xur (rm : Nat → Nat → Option Nat) (a k : Nat) (v : Option Nat) : Nat → Nat → Option Nat := fun a' k' => if a' = a ∧ k' = k then v else rm a' k'
def xcp (im : XI) (a0 sp a1 dp n : Nat) : XI := fun a' k' => if a' = a1 ∧ dp ≤ k' ∧ k' < dp + n then im a0 (sp + (k' - dp)) else im a' k'
-- locals
def xl (ls : Array Slot) (L : List (Option Value)) (ads : Nat → Nat) : Prop := ls.size = L.length ∧ lv_wf ls ∧ ∀ (i : Nat) (v : Value), L[i]? = some (some v) → ls[i]? = some (.val (conc ads v))
def xsafe (L : List (Option Value)) : Nat → Bool
  | 0 => true
  | i + 1 => match L[i]? with
    | some (some (.long _)) => false
    | some (some (.double _)) => false
    | _ => true
def xlp (ads : Nat → Nat) (L : List (Option Value)) : List (Nat × Value) := (List.range L.length).filterMap (fun i => match L[i]? with
  | some (some v) => some (i, conc ads v)
  | _ => none)
theorem xlp_mem {ads : Nat → Nat} {L : List (Option Value)} {q : Nat × Value} : q ∈ xlp ads L ↔ ∃ v, L[q.1]? = some (some v) ∧ q.2 = conc ads v := by
  constructor
  · intro h
    obtain ⟨i, -, hi⟩ := List.mem_filterMap.mp h
    split at hi
    · rename_i v hv
      cases hi
      exact ⟨v, hv, rfl⟩
    · cases hi
  · rintro ⟨v, h1, h2⟩
    refine List.mem_filterMap.mpr ⟨q.1, List.mem_range.mpr (List.getElem?_eq_some_iff.mp h1).1, ?_⟩
    rw [h1]
    show some (q.1, conc ads v) = some q
    rw [← h2]
theorem xl_lv {ls : Array Slot} {L : List (Option Value)} {ads : Nat → Nat} (h : xl ls L ads) : lv_has ls L.length (xlp ads L) := by
  refine ⟨h.1, h.2.1, fun q hq => ?_⟩
  obtain ⟨v, h1, h2⟩ := xlp_mem.mp hq
  rw [h2]
  exact h.2.2 _ _ h1
theorem xl_set {ls' : Array Slot} {L : List (Option Value)} {ads : Nat → Nat} {i : Nat} {v : Value} (hi : i < L.length) (hs : xsafe L i = true)
    (h : lv_has ls' L.length ((i, conc ads v) :: (xlp ads L).filter (fun q => !(q.1 == i) && !(q.1 + 1 == i && q.2.category == 2)))) : xl ls' (L.set i (some v)) ads := by
  refine ⟨by rw [List.length_set]; exact h.1, h.2.1, fun j w hj => ?_⟩
  by_cases hji : j = i
  · subst hji
    rw [List.getElem?_set_self hi] at hj
    cases hj
    exact h.2.2 (j, conc ads v) List.mem_cons_self
  · rw [List.getElem?_set_ne (Ne.symm hji)] at hj
    refine h.2.2 (j, conc ads w) (List.mem_cons_of_mem _ (List.mem_filter.mpr ⟨xlp_mem.mpr ⟨w, hj, rfl⟩, ?_⟩))
    simp only [Bool.and_eq_true, Bool.not_eq_true', beq_eq_false_iff_ne, ne_eq, hji, not_false_eq_true, true_and, Bool.and_eq_false_iff, conc_cat]
    by_cases h1 : j + 1 = i
    · right
      subst h1
      simp only [xsafe, hj] at hs
      cases w <;> simp_all [Value.category]
    · left; exact h1
def xentry : List Value → List (Option Value)
  | [] => []
  | v :: vs => if v.category = 2 then some v :: none :: xentry vs else some v :: xentry vs
theorem xentry_args {ads : Nat → Nat} : ∀ (vs : List Value) (i j : Nat) (v : Value), (xentry vs)[j]? = some (some v) → (i + j, conc ads v) ∈ lv_args i (vs.map (conc ads))
  | [], i, j, v, h => by simp [xentry] at h
  | w :: vs, i, j, v, h => by
    rw [List.map_cons]
    unfold lv_args
    rw [conc_cat]
    unfold xentry at h
    by_cases hw : w.category = 2
    · rw [if_pos hw] at h ⊢
      match j, h with
      | 0, h => cases h; exact List.mem_cons_self
      | 1, h => simp at h
      | j + 2, h =>
        have := xentry_args (ads := ads) vs (i + 2) j v (by simpa using h)
        rw [show i + (j + 2) = i + 2 + j by omega]
        exact List.mem_cons_of_mem _ this
    · rw [if_neg hw] at h ⊢
      match j, h with
      | 0, h => cases h; exact List.mem_cons_self
      | j + 1, h =>
        have := xentry_args (ads := ads) vs (i + 1) j v (by simpa using h)
        rw [show i + (j + 1) = i + 1 + j by omega]
        exact List.mem_cons_of_mem _ this
theorem xentry_len : ∀ vs : List Value, (xentry vs).length = (lg_sl vs).length
  | [] => rfl
  | v :: vs => by
    unfold xentry lg_sl
    rw [List.flatMap_cons]
    have ih := xentry_len vs
    unfold lg_sl at ih
    by_cases h : v.category = 2
    · rw [if_pos h, if_pos h]; simp [ih]
    · rw [if_neg h, if_neg h]; simp [ih]
theorem lg_sl_conc (ads : Nat → Nat) (vs : List Value) : (lg_sl (vs.map (conc ads))).length = (lg_sl vs).length := by
  induction vs with
  | nil => rfl
  | cons v vs ih =>
    simp only [lg_sl, List.map_cons, List.flatMap_cons, List.length_append, conc_cat] at ih ⊢
    rw [ih]
    by_cases h : v.category = 2
    · simp [h]
    · simp [h]
theorem xl_weak {ls : Array Slot} {L L' : List (Option Value)} {ads : Nat → Nat} (h : xl ls L ads) (hl : L'.length = L.length) (hw : ∀ (i : Nat) (v : Value), L'[i]? = some (some v) → L[i]? = some (some v)) : xl ls L' ads :=
  ⟨h.1.trans hl.symm, h.2.1, fun i v hv => h.2.2 i v (hw i v hv)⟩
-- the world holds in a heap
def XR (D : va_G) (E : Nat → ClassId) (ads : Nat → Nat) (A : Nat → Prop) (b : Nat × Nat) (S : XS) (im : XI) (H : Heap) : Prop :=
  va_P D vwCl (xw E ads S im) H ∧ va_D A (xw E ads S im) ∧ ∀ i, i < b.1 → ads (S.1.length + i) = H.size + i
def XC (M : XM) (d : Nat) (p : Program) (R : Room) (s : State) (m : MethodId) (args : Array Value) (meth : Method) (c : Code) (D : va_G) (E : Nat → ClassId) (A : Nat → Prop) (ads : Nat → Nat) : Prop :=
  CallFix p m c M.2.1 M.2.2.1 s args (xws M) M.1.cls ∧ (meth.sig.returnType = M.2.2.2 ∧ meth.locks = false ∧ meth.name = M.1.name) ∧ (va_K D vwCl (xtys E) s ∧ XN s ∧ XT ads A s s.heap) ∧ (∀ q, s.heap.size ≤ q → A q) ∧ R.frames = d ∧ R.locals = 64 * d
def XQ (D : va_G) (E : Nat → ClassId) (A : Nat → Prop) (ads : Nat → Nat) (n0 : Nat) (Q : Option Value → XS → XI → Prop) : Array Value → State → Outcome → State → Prop := fun _ st oc t =>
  (∃ (r : Option Value) (S' : XS) (im' : XI), oc = .returned (r.map (conc ads)) ∧ Q r S' im' ∧ va_P D vwCl (xw E ads S' im') t.heap ∧ va_D A (xw E ads S' im') ∧ t.heap.size + n0 = st.heap.size + S'.1.length) ∧ va_F A st t
/-- from pc on, with these locals, this stack, in this world, the method comes to its end with Q -/
def V (M : XM) (d : Nat) (b : Nat × Nat) (pc : Nat) (L : List (Option Value)) (st : List Value) (S : XS) (im : XI) (Q : Option Value → XS → XI → Prop) : Prop :=
  ∀ (p : Program) (l : Launch) (e : Env) (R : Room) (s : State) (m : MethodId) (args : Array Value) (below : List Frame) (meth : Method) (c : Code) (D : va_G) (E : Nat → ClassId) (A : Nat → Prop) (ads : Nat → Nat) (H : Heap) (locs : List Loc) (cells slots n0 : Nat) (ls : Array Slot),
    XC M d p R s m args meth c D E A ads → XR D E ads A b S im H → va_S A s.heap H locs → H.size + n0 = s.heap.size + S.1.length → cells + b.1 ≤ R.cells → slots + b.2 ≤ R.slots → xl ls L ads →
    W p l e R s m args below meth c H locs cells slots (MQ below (XQ D E A ads n0 Q) args s R.cells R.slots A) (F0 m pc ls (st.map (conc ads)))
def XP (D : va_G) (E : Nat → ClassId) (A : Nat → Prop) (ads : Nat → Nat) (sz : Nat) (b : Nat × Nat) (S : XS) (im : XI) (vs : List Value) : Array Value → State → Prop := fun v U =>
  v = (vs.map (conc ads)).toArray ∧ U.heap.size = sz ∧ va_K D vwCl (xtys E) U ∧ XN U ∧ XT ads A U U.heap ∧ XR D E ads A b S im U.heap
/-- a method's contract -/
def Spec (M : XM) (d : Nat) (b : Nat × Nat) (vs : List Value) (S : XS) (im : XI) (Q : Option Value → XS → XI → Prop) : Prop :=
  ∀ (l : Launch) (D : va_G) (E : Nat → ClassId) (A : Nat → Prop) (ads : Nat → Nat) (sz : Nat), (∀ q, sz ≤ q → A q) → Met l M.1 (xws M) (xrm d b) (XP D E A ads sz b S im vs) (XQ D E A ads S.1.length Q) b.1 b.2 A
def xlocs (vs : List Value) (n : Nat) : List (Option Value) := xentry vs ++ List.replicate (n - (xentry vs).length) none
theorem Spec.of {M : XM} {d : Nat} {b : Nat × Nat} {vs : List Value} {S : XS} {im : XI} {Q : Option Value → XS → XI → Prop} (L : List (Option Value)) (hL : xlocs vs M.2.2.1 = L) (hp : plainName M.1.cls = true) (hle : Nat.ble (xentry vs).length M.2.2.1 = true)
    (k : V M d b 0 L [] S im Q) : Spec M d b vs S im Q := by
  subst hL
  intro l D E A ads sz hA
  refine Met.ofW (cc := M.2.1) (maxL := M.2.2.1) (ret := M.2.2.2) hp rfl ?_
  intro p e s m args below meth c s₁ B hml hv
  obtain ⟨rfl, hsz, hK, hN, hT, hR⟩ := hv
  have hx := B.exec
  have hb := B.bytes
  have hr := B.returns
  have hts := atoms_spec (ws := xws M) B.pre
  have hown : s.vm.findClass M.1.cls = some m.cls := findClass_of_methodNamed B.named
  have hlocks := B.notSynchronized
  have hin : meth.name = M.1.name := (name_of_methodNamed B.named B.method).1
  subst hsz
  have hle' : (lg_sl (vs.map (conc ads))).length ≤ M.2.2.1 := by rw [lg_sl_conc, ← xentry_len]; exact Nat.le_of_ble_eq_true hle
  have hl := lv_entry (vs.map (conc ads)) (n := M.2.2.1) hle'
  rw [lg_entry_eq]
  refine k p l e _ s m _ below meth c D E A ads s.heap [] 0 0 S.1.length _ ⟨⟨hx, hb, hml, hown, hts⟩, ⟨hr, hlocks, hin⟩, ⟨hK, hN, hT⟩, hA, rfl, rfl⟩ hR va_S.rf rfl (Nat.le_of_eq (Nat.zero_add _)) (Nat.le_of_eq (Nat.zero_add _)) ⟨?_, hl.2.1, fun i v hv => ?_⟩
  · rw [hl.1]
    have := Nat.le_of_ble_eq_true hle
    simp only [xlocs, List.length_append, List.length_replicate]; omega
  · have hlt : i < (xentry vs).length := by
      by_cases h : i < (xentry vs).length
      · exact h
      · exfalso
        simp only [xlocs] at hv
        rw [List.getElem?_append_right (Nat.le_of_not_lt h)] at hv
        obtain ⟨h1, h2⟩ := List.getElem?_eq_some_iff.mp hv
        simp at h2
    simp only [xlocs] at hv
    rw [List.getElem?_append_left hlt] at hv
    have := xentry_args (ads := ads) vs 0 i v hv
    rw [Nat.zero_add] at this
    exact hl.2.2 _ this
theorem V.mono {M : XM} {d : Nat} {b : Nat × Nat} {pc : Nat} {L : List (Option Value)} {st : List Value} {S : XS} {im : XI} {Q Q' : Option Value → XS → XI → Prop} (h : ∀ r S' im', Q r S' im' → Q' r S' im') (k : V M d b pc L st S im Q) : V M d b pc L st S im Q' := by
  intro p l e R s m args below meth c D E A ads H locs cells slots n0 ls C hR hS hn hb1 hb2 hl
  intro T hT X
  obtain ⟨t, h1, o, q1, q2, ⟨⟨r, S', im', q3, q4, q5⟩, q6⟩, q7⟩ := k p l e R s m args below meth c D E A ads H locs cells slots n0 ls C hR hS hn hb1 hb2 hl T hT X
  exact ⟨t, h1, o, q1, q2, ⟨⟨r, S', im', q3, h _ _ _ q4, q5⟩, q6⟩, q7⟩
theorem V.weak {M : XM} {d : Nat} {b : Nat × Nat} {pc : Nat} {L L' : List (Option Value)} {st : List Value} {S : XS} {im : XI} {Q : Option Value → XS → XI → Prop} (hl0 : L'.length = L.length) (hw : ∀ (i : Nat) (v : Value), L'[i]? = some (some v) → L[i]? = some (some v)) (k : V M d b pc L' st S im Q) : V M d b pc L st S im Q := by
  intro p l e R s m args below meth c D E A ads H locs cells slots n0 ls C hR hS hn hb1 hb2 hl
  exact k p l e R s m args below meth c D E A ads H locs cells slots n0 ls C hR hS hn hb1 hb2 (xl_weak hl hl0 hw)
