/-! The picture: ints M, longs L, references R, by (cell, place); a cell's place in the heap is b + cell. -/
abbrev gM : Type := Nat → Nat → Int32
abbrev gL : Type := Nat → Nat → Int64
abbrev gR : Type := Nat → Nat → Option Nat
abbrev gY : Type := MethodName × ByteArray × Nat × Option FieldType × Nat
def uM (M : gM) (a i : Nat) (x : Int32) : gM := fun c => if c = a then upd (M a) i x else M c
def uL (L : gL) (a i : Nat) (x : Int64) : gL := fun c => if c = a then vp_updL (L a) i x else L c
def uR (R : gR) (a i : Nat) (x : Option Nat) : gR := fun c => if c = a then va_up (R a) i x else R c
theorem uM_at (M : gM) (a i : Nat) (x : Int32) (c j : Nat) : uM M a i x c j = if c = a ∧ j = i then x else M c j := by
  unfold uM
  by_cases h : c = a
  · subst h
    by_cases h2 : j = i
    · simp [upd, h2]
    · simp [upd, h2]
  · simp [h]
theorem uL_at (L : gL) (a i : Nat) (x : Int64) (c j : Nat) : uL L a i x c j = if c = a ∧ j = i then x else L c j := by
  unfold uL
  by_cases h : c = a
  · subst h
    by_cases h2 : j = i
    · simp [vp_updL, h2]
    · simp [vp_updL, h2]
  · simp [h]
theorem uR_at (R : gR) (a i : Nat) (x : Option Nat) (c j : Nat) : uR R a i x c j = if c = a ∧ j = i then x else R c j := by
  unfold uR
  by_cases h : c = a
  · subst h
    by_cases h2 : j = i
    · simp [va_up, h2]
    · simp [va_up, h2]
  · simp [h]
theorem uM_row (M : gM) (a i : Nat) (x : Int32) : uM M a i x a = upd (M a) i x := if_pos rfl
theorem uM_ne (M : gM) {a c : Nat} (i : Nat) (x : Int32) (h : c ≠ a) : uM M a i x c = M c := if_neg h
theorem uL_row (L : gL) (a i : Nat) (x : Int64) : uL L a i x a = vp_updL (L a) i x := if_pos rfl
theorem uL_ne (L : gL) {a c : Nat} (i : Nat) (x : Int64) (h : c ≠ a) : uL L a i x c = L c := if_neg h
theorem uR_row (R : gR) (a i : Nat) (x : Option Nat) : uR R a i x a = va_up (R a) i x := if_pos rfl
theorem uR_ne (R : gR) {a c : Nat} (i : Nat) (x : Option Nat) (h : c ≠ a) : uR R a i x c = R c := if_neg h
def b01 (x : Int32) : Int32 := if x = 0 then 0 else 1
theorem b01_01 (x : Int32) : b01 x = 0 ∨ b01 x = 1 := by
  unfold b01
  split
  · exact Or.inl rfl
  · exact Or.inr rfl
def cv (b : Nat) : Value → Value
  | .ref a => .ref (b + a)
  | v => v
theorem cv_cat (b : Nat) (v : Value) : (cv b v).category = v.category := by cases v <;> rfl
def fvl (b : Nat) (M : gM) (R : gR) (a : Nat) (q : Nat × Nat) : Value := match q.1 with
  | 0 => .int (M a q.2)
  | 2 => .int (b01 (M a q.2))
  | _ => va_rf ((R a q.2).map (fun x => b + x))
def ent (cA : Nat → ClassId) (b : Nat) (M : gM) (L : gL) (R : gR) (a : Nat) : va_E := match SH a with
  | (0, ci) => .inr (ci, (fks ci).map (fvl b M R a))
  | (1, n) => .inl (cA 0, n, .inl (M a))
  | (2, n) => .inl (cA 1, n, .inl (M a))
  | (3, n) => .inl (cA 2, n, .inl (M a))
  | (4, n) => .inl (cA 3, n, .inr (.inl (L a)))
  | (_, n) => .inl (cA 4, n, .inr (.inr (.inr (.inr (fun j => (R a j).map (fun x => b + x))))))
def Wd (cA : Nat → ClassId) (b n : Nat) (M : gM) (L : gL) (R : gR) : va_W := (List.range n).map (fun a => (b + a, ent cA b M L R a))
theorem wd_at {cA : Nat → ClassId} {b n a : Nat} {M : gM} {L : gL} {R : gR} (h : a < n) : (Wd cA b n M L R)[a]? = some (b + a, ent cA b M L R a) := by
  simp [Wd, h]
theorem wd_get {cA : Nat → ClassId} {b n k : Nat} {M : gM} {L : gL} {R : gR} {q : Nat × va_E} (h : (Wd cA b n M L R)[k]? = some q) : k < n ∧ q = (b + k, ent cA b M L R k) := by
  have hk : k < n := by
    have := (List.getElem?_eq_some_iff.mp h).1
    simpa [Wd] using this
  rw [wd_at hk] at h
  exact ⟨hk, (Option.some.inj h).symm⟩
theorem wd_set {cA : Nat → ClassId} {b n a : Nat} {M M' : gM} {L L' : gL} {R R' : gR} (h : a < n) (ho : ∀ c, c ≠ a → ent cA b M' L' R' c = ent cA b M L R c) :
    (Wd cA b n M L R).set a (b + a, ent cA b M' L' R' a) = Wd cA b n M' L' R' := by
  apply List.ext_getElem?
  intro i
  rw [List.getElem?_set]
  by_cases hi : i < n
  · rw [wd_at hi]
    by_cases ha : a = i
    · subst ha
      simp [Wd, h]
    · rw [if_neg ha, wd_at hi, ho i (fun q => ha q.symm)]
  · have e1 : (Wd cA b n M' L' R')[i]? = none := by simp [Wd]; omega
    have e2 : (Wd cA b n M L R)[i]? = none := by simp [Wd]; omega
    have ha : a ≠ i := by omega
    rw [e1, if_neg ha, e2]
theorem wd_snoc {cA : Nat → ClassId} {b n : Nat} {M : gM} {L : gL} {R : gR} : Wd cA b (n + 1) M L R = Wd cA b n M L R ++ [(b + n, ent cA b M L R n)] := by
  simp [Wd, List.range_succ]
theorem wd_D {cA : Nat → ClassId} {b n : Nat} {M : gM} {L : gL} {R : gR} : va_D (fun q => b ≤ q) (Wd cA b n M L R) := by
  refine ⟨fun i j p q hi hj e => ?_, fun k q hk => ?_⟩
  · obtain ⟨-, rfl⟩ := wd_get hi
    obtain ⟨-, rfl⟩ := wd_get hj
    have e' : b + i = b + j := e
    omega
  · obtain ⟨-, rfl⟩ := wd_get hk
    exact Nat.le_add_right _ _
def tys (cA : Nat → ClassId) : List (ClassId × FieldType) := [(cA 0, .int), (cA 1, .byte), (cA 2, .boolean), (cA 3, .long), (cA 4, .object "CookedLaw$State")]
def gtb : List Cond := lw_tbl.filter goodWord
theorem gtb_of {w : Cond} (h : w ∈ lw_tbl) (g : goodWord w = true) : w ∈ gtb := List.mem_filter.mpr ⟨h, g⟩
def isNest : Cond → Bool
  | .fieldLinkNest .. => true
  | .methodLinkNest .. => true
  | _ => false
def gK (D : va_G) (cA : Nat → ClassId) (s : State) : Prop := va_K D cls (tys cA) s ∧ (∀ w ∈ tables_1, isNest w = true → va_Nw w s) ∧ va_AO "CookedLaw$State" s
theorem gK.same {D : va_G} {cA : Nat → ClassId} {u U : State} (h : u.vm = U.vm) (k : gK D cA u) : gK D cA U := by
  refine ⟨va_K.moved (by rw [h]; exact Vm.Alike.refl _) k.1, fun w hw hn => ?_, va_AO.moved (by rw [h]; exact Vm.Alike.refl _) k.2.2⟩
  refine va_Nw.same ?_ h (k.2.1 w hw hn)
  cases w <;> first | rfl | (exfalso; simp [isNest] at hn)
theorem gK.warm {D : va_G} {cA : Nat → ClassId} {s U : State} (h : s.WarmedH U.vm) (k : gK D cA s) : gK D cA U := by
  refine ⟨va_K.moved h.alike k.1, fun w hw hn => ?_, va_AO.moved h.alike k.2.2⟩
  have hq := k.2.1 w hw hn
  cases w with
  | fieldLinkNest a i b n d h' => exact va_Nw.warmF h hq
  | methodLinkNest a i x h' => exact va_Nw.warmM h hq
  | _ => exfalso; simp [isNest] at hn
def jsB : List (List Int32) := [[102, 111, 111, 100, 32, 100, 105, 115, 104, 32, 103, 117, 101, 115, 116, 32, 100, 101, 101, 100, 32, 102, 111, 114, 99, 101, 32, 98, 105, 110, 100, 115, 32, 102, 105, 108, 108, 115, 32, 115, 108, 105, 112, 115, 32, 115, 101, 101, 100, 32, 105, 102, 32, 116, 104, 101, 110, 32, 101, 108, 115, 101, 32, 115, 117, 109, 32, 104, 101, 97, 116, 32, 107, 105, 110, 100, 32, 109, 97, 110, 121, 32, 100, 97, 121, 32, 112, 97, 108, 97, 116, 101, 32, 97, 103, 111, 32, 115, 116, 111, 99, 107, 32, 112, 114, 105, 99, 101]]
def gO (b : Nat) (U : State) (H : Heap) : Prop := ∃ adK adV : Nat → Nat, vk_S 1 [108] jsB adK adV (fun q => b ≤ q) U H ∧ vk_R "CookedLaw$Tokens" 25 "food dish guest deed force binds fills slips seed if then else sum heat kind many day palate ago stock price" (adK 0) U ∧ va_Z "java/lang/String" "COMPACT_STRINGS" "Z" (.int 1) (fun q => b ≤ q) U H ∧ va_Zq "jdk/internal/util/Preconditions" "SIOOBE_FORMATTER" "Ljava/util/function/BiFunction;" (fun q => b ≤ q) U H
theorem gO.warm {b : Nat} {s U : State} {H : Heap} (h : s.WarmedH U.vm) (g : gO b s H) : gO b U H := by
  obtain ⟨adK, adV, g1, g2, g3, g4⟩ := g
  exact ⟨adK, adV, g1.moved h.alike, vk_R.warm h g2, g3.moved h.alike, g4.moved h.alike⟩
theorem gO.same {b : Nat} {u U : State} {H : Heap} (h : U.vm = u.vm) (g : gO b u H) : gO b U H := by
  obtain ⟨adK, adV, g1, g2, g3, g4⟩ := g
  have hv : u.vm.Alike U.vm := by rw [h]; exact Vm.Alike.refl _
  exact ⟨adK, adV, g1.moved hv, vk_R.same h g2, g3.moved hv, g4.moved hv⟩
theorem gO.kept {b : Nat} {U : State} {H H1 : Heap} (g : gO b U H) (hq : ∀ a : Nat, a < H.size → ¬ b ≤ a → H1[a]? = H[a]?) : gO b U H1 := by
  obtain ⟨adK, adV, g1, g2, g3, g4⟩ := g
  exact ⟨adK, adV, g1.kept hq, g2, g3.kept hq, g4.kept hq⟩
def rmd (h mc ms : Nat) : Room := { frames := h, cells := mc, slots := ms, locals := 40 * h }
def gW (Y : gY) : List Cond := Cond.code Y.1 Y.2.1 Y.2.2.1 Y.2.2.2.1 :: gtb
def gP (b n : Nat) (D : va_G) (cA : Nat → ClassId) (M : gM) (L : gL) (R : gR) (args : List Value) : Array Value → State → Prop := fun v U =>
  v = (args.map (cv b)).toArray ∧ U.heap.size = b + n ∧ va_P D cls (Wd cA b n M L R) U.heap ∧ gK D cA U ∧ gO b U U.heap
def gQ (b : Nat) (D : va_G) (cA : Nat → ClassId) (n : Nat) (Q : Option Value → gM → gL → gR → Prop) : Array Value → State → Outcome → State → Prop := fun _ st oc t =>
  (∃ (r : Option Value) (M : gM) (L : gL) (R : gR), oc = .returned (r.map (cv b)) ∧ Q r M L R ∧ va_P D cls (Wd cA b n M L R) t.heap) ∧ va_F (fun q => b ≤ q) st t
/-- a method's contract: from the picture it returns, and Q holds of its answer and the picture behind it; E: cells and slots that it makes, and how many cells there are then -/
def Tm (l : Launch) (Y : gY) (E : Nat × Nat × Nat) (n : Nat) (args : List Value) (M : gM) (L : gL) (R : gR) (Q : Option Value → gM → gL → gR → Prop) : Prop :=
  ∀ (b : Nat) (D : va_G) (cA : Nat → ClassId), Met l Y.1 (gW Y) (rmd Y.2.2.2.2 E.1 E.2.1) (gP b n D cA M L R args) (gQ b D cA E.2.2 Q) E.1 E.2.1 (fun q => b ≤ q)
def Cx (l : Launch) (Y : gY) (b : Nat) (D : va_G) (cA : Nat → ClassId) (p : Program) (s : State) (m : MethodId) (args : Array Value) (meth : Method) (c : Code) : Prop :=
  p.tables.exec = Jvm.exec ∧ c.code = Y.2.1 ∧ meth.sig.returnType = Y.2.2.2.1 ∧ meth.locks = false ∧ c.maxLocals = Y.2.2.1 ∧ s.vm.findClass Y.1.cls = some m.cls ∧ meth.name = Y.1.name ∧ (∀ w ∈ gW Y, w.before args s = true) ∧ gK D cA s ∧ b ≤ s.heap.size ∧ gO b s s.heap
/-- from here on in a method: k cells of z slots have been made, n cells are there -/
def Wp (l : Launch) (Y : gY) (E : Nat × Nat × Nat) (n k z pc : Nat) (lv : List (Nat × Value)) (st : List Value) (M : gM) (L : gL) (R : gR) (Q : Option Value → gM → gL → gR → Prop) : Prop :=
  ∀ (b : Nat) (D : va_G) (cA : Nat → ClassId) (p : Program) (e : Env) (s : State) (m : MethodId) (args : Array Value) (below : List Frame) (meth : Method) (c : Code) (H : Heap) (locs : List Loc) (ls : Array Slot),
    Cx l Y b D cA p s m args meth c → s.heap.size + k = b + n → va_P D cls (Wd cA b n M L R) H → va_S (fun q => b ≤ q) s.heap H locs → lv_has ls Y.2.2.1 (lv.map (fun q => (q.1, cv b q.2))) →
    W p l e (rmd Y.2.2.2.2 E.1 E.2.1) s m args below meth c H locs k z (MQ below (gQ b D cA E.2.2 Q) args s E.1 E.2.1 (fun q => b ≤ q)) (F0 m pc ls (st.map (cv b)))
theorem Tm.imp {l : Launch} {Y : gY} {E : Nat × Nat × Nat} {n : Nat} {args : List Value} {M : gM} {L : gL} {R : gR} {Q Q' : Option Value → gM → gL → gR → Prop} (h : Tm l Y E n args M L R Q) (f : ∀ r M' L' R', Q r M' L' R' → Q' r M' L' R') : Tm l Y E n args M L R Q' := by
  intro b D cA p e ha hc hk s m as below hf happ hP hK
  obtain ⟨t, o, h1, h2, h3, ⟨⟨r, M', L', R', g1, g2, g4⟩, hF⟩, h5⟩ := h b D cA p e ha hc hk s m as below hf happ hP hK
  exact ⟨t, o, h1, h2, h3, ⟨⟨r, M', L', R', g1, f _ _ _ _ g2, g4⟩, hF⟩, h5⟩
theorem cv_args (b : Nat) (vs : List Value) : ∀ i : Nat, lv_args i (vs.map (cv b)) = (lv_args i vs).map (fun q => (q.1, cv b q.2)) := by
  induction vs with
  | nil => intro i; rfl
  | cons v vs ih =>
    intro i
    show (i, cv b v) :: lv_args (if (cv b v).category = 2 then i + 2 else i + 1) (vs.map (cv b)) = _
    rw [cv_cat, ih]
    rfl
theorem cv_sl (b : Nat) (vs : List Value) : (lg_sl (vs.map (cv b))).length = (lg_sl vs).length := by
  induction vs with
  | nil => rfl
  | cons v vs ih =>
    have e1 : ∀ (w : Value) (ws : List Value), (lg_sl (w :: ws)).length = (if w.category = 2 then 2 else 1) + (lg_sl ws).length := by
      intro w ws
      simp only [lg_sl, List.flatMap_cons, List.length_append]
      split <;> rfl
    rw [List.map_cons, e1, e1, cv_cat, ih]
theorem Tm.of {l : Launch} {Y : gY} {E : Nat × Nat × Nat} {n : Nat} {args : List Value} {M : gM} {L : gL} {R : gR} {Q : Option Value → gM → gL → gR → Prop} (hy : plainName Y.1.cls = true) (hn : (lg_sl args).length ≤ Y.2.2.1)
    (h : Wp l Y E n 0 0 0 (lv_args 0 args) [] M L R Q) : Tm l Y E n args M L R Q := by
  intro b D cA
  refine Met.ofW (cc := Y.2.1) (maxL := Y.2.2.1) (ret := Y.2.2.2.1) hy rfl ?_
  intro p e s m as below meth c s₁ B hml hv
  obtain ⟨rfl, hsz, hP, hK, hO⟩ := hv
  have hts := atoms_spec (ws := gW Y) B.pre
  have hl := lv_entry (args.map (cv b)) (n := Y.2.2.1) (by rw [cv_sl]; exact hn)
  rw [lg_entry_eq]
  rw [cv_args] at hl
  exact h b D cA p e s m _ below meth c s.heap [] _ ⟨B.exec, B.bytes, B.returns, B.notSynchronized, hml, findClass_of_methodNamed B.named, (name_of_methodNamed B.named B.method).1, hts, hK, by omega, hO⟩ hsz hP va_S.rf hl
def sto (lv : List (Nat × Value)) (i : Nat) (v : Value) : List (Nat × Value) := (i, v) :: lv.filter (fun q => !(q.1 == i) && !(q.1 + 1 == i && q.2.category == 2))
def sto2 (lv : List (Nat × Value)) (i : Nat) (v : Value) : List (Nat × Value) := (i, v) :: lv.filter (fun q => !(q.1 == i) && (!(q.1 == i + 1) && !(q.1 + 1 == i && q.2.category == 2)))
theorem sto_cv (b : Nat) (lv : List (Nat × Value)) (i : Nat) (v : Value) : (i, cv b v) :: (lv.map (fun q => (q.1, cv b q.2))).filter (fun q => !(q.1 == i) && !(q.1 + 1 == i && q.2.category == 2)) = (sto lv i v).map (fun q => (q.1, cv b q.2)) := by
  simp only [sto, List.map_cons, List.filter_map]
  congr 2
  apply List.filter_congr
  intro q _
  simp [Function.comp, cv_cat]
theorem sto2_cv (b : Nat) (lv : List (Nat × Value)) (i : Nat) (v : Value) : (i, cv b v) :: (lv.map (fun q => (q.1, cv b q.2))).filter (fun q => !(q.1 == i) && (!(q.1 == i + 1) && !(q.1 + 1 == i && q.2.category == 2))) = (sto2 lv i v).map (fun q => (q.1, cv b q.2)) := by
  simp only [sto2, List.map_cons, List.filter_map]
  congr 2
  apply List.filter_congr
  intro q _
  simp [Function.comp, cv_cat]
theorem pick_cv (b : Nat) (lv : List (Nat × Value)) (ks : List Nat) : lv_pick (lv.map (fun q => (q.1, cv b q.2))) ks = (lv_pick lv ks).map (fun q => (q.1, cv b q.2)) := by
  unfold lv_pick
  induction ks with
  | nil => rfl
  | cons k ks ih =>
    simp only [List.filterMap_cons, List.getElem?_map]
    cases lv[k]? with
    | none => simpa using ih
    | some q => simpa using ih
theorem lv_cvat {ls : Array Slot} {nL b : Nat} {lv : List (Nat × Value)} (h : lv_has ls nL (lv.map (fun q => (q.1, cv b q.2)))) {j i : Nat} {v : Value} (hv : lv[j]? = some (i, v)) : ls[i]? = some (.val (cv b v)) :=
  h.2.2 (i, cv b v) (List.mem_map.mpr ⟨(i, v), List.mem_of_getElem? hv, rfl⟩)
section RULES
variable {l : Launch} {Y : gY} {E : Nat × Nat × Nat} {n k z pc pc1 : Nat} {lv lv' : List (Nat × Value)} {st : List Value} {M : gM} {L : gL} {R : gR} {Q : Option Value → gM → gL → gR → Prop}
theorem Wp.loc (ks : List Nat) (h : lv_pick lv ks = lv') (kk : Wp l Y E n k z pc lv' st M L R Q) : Wp l Y E n k z pc lv st M L R Q := by
  intro b D cA p e s m args below meth c H locs ls C hz hP hS hl
  exact kk b D cA p e s m args below meth c H locs ls C hz hP hS (lv_sub hl ks (by rw [pick_cv, h]))
theorem g_iconst {q : Int} {v : Int32} (hd : decode Y.2.1 pc = .ok (.iconst q, 1)) (hp : pc + 1 = pc1) (hv : Int32.ofInt q = v) (kk : Wp l Y E n k z pc1 lv (.int v :: st) M L R Q) : Wp l Y E n k z pc lv (st) M L R Q := by
  subst hp
  intro b D cA p e s m args below meth c H locs ls C hz hP hS hl
  exact lv_iconst C.1 C.2.1 hd hv (kk b D cA p e s m args below meth c H locs ls C hz hP hS hl)
theorem g_bipush {q : Int} {v : Int32} (hd : decode Y.2.1 pc = .ok (.bipush q, 2)) (hp : pc + 2 = pc1) (hv : (Int8.ofInt q).toInt32 = v) (kk : Wp l Y E n k z pc1 lv (.int v :: st) M L R Q) : Wp l Y E n k z pc lv (st) M L R Q := by
  subst hp
  intro b D cA p e s m args below meth c H locs ls C hz hP hS hl
  exact lv_bipush C.1 C.2.1 hd hv (kk b D cA p e s m args below meth c H locs ls C hz hP hS hl)
theorem g_sipush {q : Int} {v : Int32} (hd : decode Y.2.1 pc = .ok (.sipush q, 3)) (hp : pc + 3 = pc1) (hv : (Int16.ofInt q).toInt32 = v) (kk : Wp l Y E n k z pc1 lv (.int v :: st) M L R Q) : Wp l Y E n k z pc lv (st) M L R Q := by
  subst hp
  intro b D cA p e s m args below meth c H locs ls C hz hP hS hl
  exact lv_sipush C.1 C.2.1 hd hv (kk b D cA p e s m args below meth c H locs ls C hz hP hS hl)
theorem g_lconst {q : Fin 2} {v : Int64} (hd : decode Y.2.1 pc = .ok (.lconst q, 1)) (hp : pc + 1 = pc1) (hv : Int64.ofNat (q : Nat) = v) (kk : Wp l Y E n k z pc1 lv (.long v :: st) M L R Q) : Wp l Y E n k z pc lv (st) M L R Q := by
  subst hp
  intro b D cA p e s m args below meth c H locs ls C hz hP hS hl
  exact lv_lconst C.1 C.2.1 hd hv (kk b D cA p e s m args below meth c H locs ls C hz hP hS hl)
theorem g_ldc {i : Nat} {v : Int32} (hd : decode Y.2.1 pc = .ok (.ldc i, 2)) (hp : pc + 2 = pc1) (hw : Cond.constant Y.1.cls i v ∈ gtb) (kk : Wp l Y E n k z pc1 lv (.int v :: st) M L R Q) : Wp l Y E n k z pc lv (st) M L R Q := by
  subst hp
  intro b D cA p e s m args below meth c H locs ls C hz hP hS hl
  exact lv_ldc C.1 C.2.1 C.2.2.2.2.2.1 (C.2.2.2.2.2.2.2.1 _ (List.mem_cons_of_mem _ hw)) hd (kk b D cA p e s m args below meth c H locs ls C hz hP hS hl)
theorem g_ldcw {i : Nat} {v : Int32} (hd : decode Y.2.1 pc = .ok (.ldc_w i, 3)) (hp : pc + 3 = pc1) (hw : Cond.constant Y.1.cls i v ∈ gtb) (kk : Wp l Y E n k z pc1 lv (.int v :: st) M L R Q) : Wp l Y E n k z pc lv (st) M L R Q := by
  subst hp
  intro b D cA p e s m args below meth c H locs ls C hz hP hS hl
  exact lv_ldcw C.1 C.2.1 C.2.2.2.2.2.1 (C.2.2.2.2.2.2.2.1 _ (List.mem_cons_of_mem _ hw)) hd (kk b D cA p e s m args below meth c H locs ls C hz hP hS hl)
theorem g_ldc2 {i : Nat} {v : Int64} (hd : decode Y.2.1 pc = .ok (.ldc2_w i, 3)) (hp : pc + 3 = pc1) (hw : Cond.constantLong Y.1.cls i v ∈ gtb) (kk : Wp l Y E n k z pc1 lv (.long v :: st) M L R Q) : Wp l Y E n k z pc lv (st) M L R Q := by
  subst hp
  intro b D cA p e s m args below meth c H locs ls C hz hP hS hl
  exact lv_ldc2 C.1 C.2.1 C.2.2.2.2.2.1 (C.2.2.2.2.2.2.2.1 _ (List.mem_cons_of_mem _ hw)) hd (kk b D cA p e s m args below meth c H locs ls C hz hP hS hl)
theorem g_iload_n {q : Fin 4} {x : Int32} (hd : decode Y.2.1 pc = .ok (.iload_n q, 1)) (hp : pc + 1 = pc1) (j : Nat) (hv : lv[j]? = some ((q : Nat), .int x)) (kk : Wp l Y E n k z pc1 lv (.int x :: st) M L R Q) : Wp l Y E n k z pc lv (st) M L R Q := by
  subst hp
  intro b D cA p e s m args below meth c H locs ls C hz hP hS hl
  exact lv_iload_n C.1 C.2.1 hd rfl (lv_cvat hl hv) (kk b D cA p e s m args below meth c H locs ls C hz hP hS hl)
theorem g_iload {i : Nat} {x : Int32} (hd : decode Y.2.1 pc = .ok (.iload i, 2)) (hp : pc + 2 = pc1) (j : Nat) (hv : lv[j]? = some (i, .int x)) (kk : Wp l Y E n k z pc1 lv (.int x :: st) M L R Q) : Wp l Y E n k z pc lv (st) M L R Q := by
  subst hp
  intro b D cA p e s m args below meth c H locs ls C hz hP hS hl
  exact lv_iload C.1 C.2.1 hd (lv_cvat hl hv) (kk b D cA p e s m args below meth c H locs ls C hz hP hS hl)
theorem g_lload_n {q : Fin 4} {x : Int64} (hd : decode Y.2.1 pc = .ok (.lload_n q, 1)) (hp : pc + 1 = pc1) (j : Nat) (hv : lv[j]? = some ((q : Nat), .long x)) (kk : Wp l Y E n k z pc1 lv (.long x :: st) M L R Q) : Wp l Y E n k z pc lv (st) M L R Q := by
  subst hp
  intro b D cA p e s m args below meth c H locs ls C hz hP hS hl
  exact lv_lload_n C.1 C.2.1 hd rfl (lv_cvat hl hv) (kk b D cA p e s m args below meth c H locs ls C hz hP hS hl)
theorem g_lload {i : Nat} {x : Int64} (hd : decode Y.2.1 pc = .ok (.lload i, 2)) (hp : pc + 2 = pc1) (j : Nat) (hv : lv[j]? = some (i, .long x)) (kk : Wp l Y E n k z pc1 lv (.long x :: st) M L R Q) : Wp l Y E n k z pc lv (st) M L R Q := by
  subst hp
  intro b D cA p e s m args below meth c H locs ls C hz hP hS hl
  exact lv_lload C.1 C.2.1 hd (lv_cvat hl hv) (kk b D cA p e s m args below meth c H locs ls C hz hP hS hl)
theorem g_aload_n {q : Fin 4} {x : Nat} (hd : decode Y.2.1 pc = .ok (.aload_n q, 1)) (hp : pc + 1 = pc1) (j : Nat) (hv : lv[j]? = some ((q : Nat), .ref x)) (kk : Wp l Y E n k z pc1 lv (.ref x :: st) M L R Q) : Wp l Y E n k z pc lv (st) M L R Q := by
  subst hp
  intro b D cA p e s m args below meth c H locs ls C hz hP hS hl
  exact lv_aload_n C.1 C.2.1 hd rfl (lv_cvat hl hv) (kk b D cA p e s m args below meth c H locs ls C hz hP hS hl)
theorem g_aload {i : Nat} {x : Nat} (hd : decode Y.2.1 pc = .ok (.aload i, 2)) (hp : pc + 2 = pc1) (j : Nat) (hv : lv[j]? = some (i, .ref x)) (kk : Wp l Y E n k z pc1 lv (.ref x :: st) M L R Q) : Wp l Y E n k z pc lv (st) M L R Q := by
  subst hp
  intro b D cA p e s m args below meth c H locs ls C hz hP hS hl
  exact lv_aload C.1 C.2.1 hd (lv_cvat hl hv) (kk b D cA p e s m args below meth c H locs ls C hz hP hS hl)
theorem g_istore_n {q : Fin 4} {i : Nat} {x : Int32} (hd : decode Y.2.1 pc = .ok (.istore_n q, 1)) (hp : pc + 1 = pc1) (hq : (q : Nat) = i) (hn : i < Y.2.2.1) (ks : List Nat) (hs : lv_pick (sto lv i (.int x)) ks = lv') (kk : Wp l Y E n k z pc1 lv' st M L R Q) : Wp l Y E n k z pc lv (.int x :: st) M L R Q := by
  subst hp
  intro b D cA p e s m args below meth c H locs ls C hz hP hS hl
  refine lv_istore_n C.1 C.2.1 hd hq hl hn (sto_cv b lv i (.int x)) (fun ls2 hl2 => ?_)
  exact kk b D cA p e s m args below meth c H locs ls2 C hz hP hS (lv_sub hl2 ks (by rw [pick_cv, hs]))
theorem g_istore {i : Nat} {x : Int32} (hd : decode Y.2.1 pc = .ok (.istore i, 2)) (hp : pc + 2 = pc1) (hn : i < Y.2.2.1) (ks : List Nat) (hs : lv_pick (sto lv i (.int x)) ks = lv') (kk : Wp l Y E n k z pc1 lv' st M L R Q) : Wp l Y E n k z pc lv (.int x :: st) M L R Q := by
  subst hp
  intro b D cA p e s m args below meth c H locs ls C hz hP hS hl
  refine lv_istore C.1 C.2.1 hd hl hn (sto_cv b lv i (.int x)) (fun ls2 hl2 => ?_)
  exact kk b D cA p e s m args below meth c H locs ls2 C hz hP hS (lv_sub hl2 ks (by rw [pick_cv, hs]))
theorem g_lstore_n {q : Fin 4} {i : Nat} {x : Int64} (hd : decode Y.2.1 pc = .ok (.lstore_n q, 1)) (hp : pc + 1 = pc1) (hq : (q : Nat) = i) (hn : i + 1 < Y.2.2.1) (ks : List Nat) (hs : lv_pick (sto2 lv i (.long x)) ks = lv') (kk : Wp l Y E n k z pc1 lv' st M L R Q) : Wp l Y E n k z pc lv (.long x :: st) M L R Q := by
  subst hp
  intro b D cA p e s m args below meth c H locs ls C hz hP hS hl
  refine lv_lstore_n C.1 C.2.1 hd hq hl hn (sto2_cv b lv i (.long x)) (fun ls2 hl2 => ?_)
  exact kk b D cA p e s m args below meth c H locs ls2 C hz hP hS (lv_sub hl2 ks (by rw [pick_cv, hs]))
theorem g_lstore {i : Nat} {x : Int64} (hd : decode Y.2.1 pc = .ok (.lstore i, 2)) (hp : pc + 2 = pc1) (hn : i + 1 < Y.2.2.1) (ks : List Nat) (hs : lv_pick (sto2 lv i (.long x)) ks = lv') (kk : Wp l Y E n k z pc1 lv' st M L R Q) : Wp l Y E n k z pc lv (.long x :: st) M L R Q := by
  subst hp
  intro b D cA p e s m args below meth c H locs ls C hz hP hS hl
  refine lv_lstore C.1 C.2.1 hd hl hn (sto2_cv b lv i (.long x)) (fun ls2 hl2 => ?_)
  exact kk b D cA p e s m args below meth c H locs ls2 C hz hP hS (lv_sub hl2 ks (by rw [pick_cv, hs]))
theorem g_astore_n {q : Fin 4} {i : Nat} {x : Nat} (hd : decode Y.2.1 pc = .ok (.astore_n q, 1)) (hp : pc + 1 = pc1) (hq : (q : Nat) = i) (hn : i < Y.2.2.1) (ks : List Nat) (hs : lv_pick (sto lv i (.ref x)) ks = lv') (kk : Wp l Y E n k z pc1 lv' st M L R Q) : Wp l Y E n k z pc lv (.ref x :: st) M L R Q := by
  subst hp
  intro b D cA p e s m args below meth c H locs ls C hz hP hS hl
  refine lv_astore_n C.1 C.2.1 hd hq hl hn (sto_cv b lv i (.ref x)) (fun ls2 hl2 => ?_)
  exact kk b D cA p e s m args below meth c H locs ls2 C hz hP hS (lv_sub hl2 ks (by rw [pick_cv, hs]))
theorem g_astore {i : Nat} {x : Nat} (hd : decode Y.2.1 pc = .ok (.astore i, 2)) (hp : pc + 2 = pc1) (hn : i < Y.2.2.1) (ks : List Nat) (hs : lv_pick (sto lv i (.ref x)) ks = lv') (kk : Wp l Y E n k z pc1 lv' st M L R Q) : Wp l Y E n k z pc lv (.ref x :: st) M L R Q := by
  subst hp
  intro b D cA p e s m args below meth c H locs ls C hz hP hS hl
  refine lv_astore C.1 C.2.1 hd hl hn (sto_cv b lv i (.ref x)) (fun ls2 hl2 => ?_)
  exact kk b D cA p e s m args below meth c H locs ls2 C hz hP hS (lv_sub hl2 ks (by rw [pick_cv, hs]))
theorem g_iinc {i : Nat} {q : Int} {x v : Int32} (hd : decode Y.2.1 pc = .ok (.iinc i q, 3)) (hp : pc + 3 = pc1) (j : Nat) (hv : lv[j]? = some (i, .int x)) (hx : x + Int32.ofInt q = v) (hn : i < Y.2.2.1) (ks : List Nat) (hs : lv_pick (sto lv i (.int v)) ks = lv') (kk : Wp l Y E n k z pc1 lv' st M L R Q) : Wp l Y E n k z pc lv st M L R Q := by
  subst hp
  intro b D cA p e s m args below meth c H locs ls C hz hP hS hl
  refine lv_iinc C.1 C.2.1 hd hl (k := j) (x := x) (by rw [List.getElem?_map, hv]; rfl) hx hn (sto_cv b lv i (.int v)) (fun ls2 hl2 => ?_)
  exact kk b D cA p e s m args below meth c H locs ls2 C hz hP hS (lv_sub hl2 ks (by rw [pick_cv, hs]))
theorem g_iadd {x y : Int32} (hd : decode Y.2.1 pc = .ok (.iadd, 1)) (hp : pc + 1 = pc1)  (kk : Wp l Y E n k z pc1 lv (.int (x + y) :: st) M L R Q) : Wp l Y E n k z pc lv (.int y :: .int x :: st) M L R Q := by
  subst hp
  intro b D cA p e s m args below meth c H locs ls C hz hP hS hl
  exact lv_iadd C.1 C.2.1 hd (kk b D cA p e s m args below meth c H locs ls C hz hP hS hl)
theorem g_isub {x y : Int32} (hd : decode Y.2.1 pc = .ok (.isub, 1)) (hp : pc + 1 = pc1)  (kk : Wp l Y E n k z pc1 lv (.int (x - y) :: st) M L R Q) : Wp l Y E n k z pc lv (.int y :: .int x :: st) M L R Q := by
  subst hp
  intro b D cA p e s m args below meth c H locs ls C hz hP hS hl
  exact lv_isub C.1 C.2.1 hd (kk b D cA p e s m args below meth c H locs ls C hz hP hS hl)
theorem g_imul {x y : Int32} (hd : decode Y.2.1 pc = .ok (.imul, 1)) (hp : pc + 1 = pc1)  (kk : Wp l Y E n k z pc1 lv (.int (x * y) :: st) M L R Q) : Wp l Y E n k z pc lv (.int y :: .int x :: st) M L R Q := by
  subst hp
  intro b D cA p e s m args below meth c H locs ls C hz hP hS hl
  exact lv_imul C.1 C.2.1 hd (kk b D cA p e s m args below meth c H locs ls C hz hP hS hl)
theorem g_iand {x y : Int32} (hd : decode Y.2.1 pc = .ok (.iand, 1)) (hp : pc + 1 = pc1)  (kk : Wp l Y E n k z pc1 lv (.int (x &&& y) :: st) M L R Q) : Wp l Y E n k z pc lv (.int y :: .int x :: st) M L R Q := by
  subst hp
  intro b D cA p e s m args below meth c H locs ls C hz hP hS hl
  exact lv_iand C.1 C.2.1 hd (kk b D cA p e s m args below meth c H locs ls C hz hP hS hl)
theorem g_ior {x y : Int32} (hd : decode Y.2.1 pc = .ok (.ior, 1)) (hp : pc + 1 = pc1)  (kk : Wp l Y E n k z pc1 lv (.int (x ||| y) :: st) M L R Q) : Wp l Y E n k z pc lv (.int y :: .int x :: st) M L R Q := by
  subst hp
  intro b D cA p e s m args below meth c H locs ls C hz hP hS hl
  exact lv_ior C.1 C.2.1 hd (kk b D cA p e s m args below meth c H locs ls C hz hP hS hl)
theorem g_ixor {x y : Int32} (hd : decode Y.2.1 pc = .ok (.ixor, 1)) (hp : pc + 1 = pc1)  (kk : Wp l Y E n k z pc1 lv (.int (x ^^^ y) :: st) M L R Q) : Wp l Y E n k z pc lv (.int y :: .int x :: st) M L R Q := by
  subst hp
  intro b D cA p e s m args below meth c H locs ls C hz hP hS hl
  exact lv_ixor C.1 C.2.1 hd (kk b D cA p e s m args below meth c H locs ls C hz hP hS hl)
theorem g_ishl {x y : Int32} (hd : decode Y.2.1 pc = .ok (.ishl, 1)) (hp : pc + 1 = pc1)  (kk : Wp l Y E n k z pc1 lv (.int (x <<< (y &&& 31)) :: st) M L R Q) : Wp l Y E n k z pc lv (.int y :: .int x :: st) M L R Q := by
  subst hp
  intro b D cA p e s m args below meth c H locs ls C hz hP hS hl
  exact lv_ishl C.1 C.2.1 hd (kk b D cA p e s m args below meth c H locs ls C hz hP hS hl)
theorem g_ishr {x y : Int32} (hd : decode Y.2.1 pc = .ok (.ishr, 1)) (hp : pc + 1 = pc1)  (kk : Wp l Y E n k z pc1 lv (.int (x >>> (y &&& 31)) :: st) M L R Q) : Wp l Y E n k z pc lv (.int y :: .int x :: st) M L R Q := by
  subst hp
  intro b D cA p e s m args below meth c H locs ls C hz hP hS hl
  exact lv_ishr C.1 C.2.1 hd (kk b D cA p e s m args below meth c H locs ls C hz hP hS hl)
theorem g_idiv {x y : Int32} (hd : decode Y.2.1 pc = .ok (.idiv, 1)) (hp : pc + 1 = pc1) (hne : ¬ y = 0) (kk : Wp l Y E n k z pc1 lv (.int (x / y) :: st) M L R Q) : Wp l Y E n k z pc lv (.int y :: .int x :: st) M L R Q := by
  subst hp
  intro b D cA p e s m args below meth c H locs ls C hz hP hS hl
  exact lv_idiv C.1 C.2.1 hd hne (kk b D cA p e s m args below meth c H locs ls C hz hP hS hl)
theorem g_irem {x y : Int32} (hd : decode Y.2.1 pc = .ok (.irem, 1)) (hp : pc + 1 = pc1) (hne : ¬ y = 0) (kk : Wp l Y E n k z pc1 lv (.int (x - x / y * y) :: st) M L R Q) : Wp l Y E n k z pc lv (.int y :: .int x :: st) M L R Q := by
  subst hp
  intro b D cA p e s m args below meth c H locs ls C hz hP hS hl
  exact lv_irem C.1 C.2.1 hd hne (kk b D cA p e s m args below meth c H locs ls C hz hP hS hl)
theorem g_iushr {x y : Int32} (hd : decode Y.2.1 pc = .ok (.iushr, 1)) (hp : pc + 1 = pc1)  (kk : Wp l Y E n k z pc1 lv (.int ((x.toUInt32 >>> (y.toUInt32 &&& Int32.toUInt32 31)).toInt32) :: st) M L R Q) : Wp l Y E n k z pc lv (.int y :: .int x :: st) M L R Q := by
  subst hp
  intro b D cA p e s m args below meth c H locs ls C hz hP hS hl
  exact lv_iushr C.1 C.2.1 hd rfl (kk b D cA p e s m args below meth c H locs ls C hz hP hS hl)
theorem g_ladd {x y : Int64} (hd : decode Y.2.1 pc = .ok (.ladd, 1)) (hp : pc + 1 = pc1)  (kk : Wp l Y E n k z pc1 lv (.long (x + y) :: st) M L R Q) : Wp l Y E n k z pc lv (.long y :: .long x :: st) M L R Q := by
  subst hp
  intro b D cA p e s m args below meth c H locs ls C hz hP hS hl
  exact lv_ladd C.1 C.2.1 hd (kk b D cA p e s m args below meth c H locs ls C hz hP hS hl)
theorem g_lmul {x y : Int64} (hd : decode Y.2.1 pc = .ok (.lmul, 1)) (hp : pc + 1 = pc1)  (kk : Wp l Y E n k z pc1 lv (.long (x * y) :: st) M L R Q) : Wp l Y E n k z pc lv (.long y :: .long x :: st) M L R Q := by
  subst hp
  intro b D cA p e s m args below meth c H locs ls C hz hP hS hl
  exact lv_lmul C.1 C.2.1 hd (kk b D cA p e s m args below meth c H locs ls C hz hP hS hl)
theorem g_i2l {x : Int32} (hd : decode Y.2.1 pc = .ok (.i2l, 1)) (hp : pc + 1 = pc1)  (kk : Wp l Y E n k z pc1 lv (.long x.toInt64 :: st) M L R Q) : Wp l Y E n k z pc lv (.int x :: st) M L R Q := by
  subst hp
  intro b D cA p e s m args below meth c H locs ls C hz hP hS hl
  exact lv_i2l C.1 C.2.1 hd rfl (kk b D cA p e s m args below meth c H locs ls C hz hP hS hl)
theorem g_l2i {x : Int64} (hd : decode Y.2.1 pc = .ok (.l2i, 1)) (hp : pc + 1 = pc1)  (kk : Wp l Y E n k z pc1 lv (.int x.toInt32 :: st) M L R Q) : Wp l Y E n k z pc lv (.long x :: st) M L R Q := by
  subst hp
  intro b D cA p e s m args below meth c H locs ls C hz hP hS hl
  exact lv_l2i C.1 C.2.1 hd rfl (kk b D cA p e s m args below meth c H locs ls C hz hP hS hl)
theorem g_i2b {x : Int32} (hd : decode Y.2.1 pc = .ok (.i2b, 1)) (hp : pc + 1 = pc1)  (kk : Wp l Y E n k z pc1 lv (.int x.toInt8.toInt32 :: st) M L R Q) : Wp l Y E n k z pc lv (.int x :: st) M L R Q := by
  subst hp
  intro b D cA p e s m args below meth c H locs ls C hz hP hS hl
  exact lv_i2b C.1 C.2.1 hd rfl (kk b D cA p e s m args below meth c H locs ls C hz hP hS hl)
theorem g_dup {v : Value} (hd : decode Y.2.1 pc = .ok (.dup, 1)) (hp : pc + 1 = pc1) (hc : v.category = 1) (kk : Wp l Y E n k z pc1 lv (v :: v :: st) M L R Q) : Wp l Y E n k z pc lv (v :: st) M L R Q := by
  subst hp
  intro b D cA p e s m args below meth c H locs ls C hz hP hS hl
  exact lv_dup C.1 C.2.1 hd (by rw [cv_cat]; exact hc) (kk b D cA p e s m args below meth c H locs ls C hz hP hS hl)
theorem g_pop {v : Value} (hd : decode Y.2.1 pc = .ok (.pop, 1)) (hp : pc + 1 = pc1) (hc : v.category = 1) (kk : Wp l Y E n k z pc1 lv (st) M L R Q) : Wp l Y E n k z pc lv (v :: st) M L R Q := by
  subst hp
  intro b D cA p e s m args below meth c H locs ls C hz hP hS hl
  exact lv_pop C.1 C.2.1 hd (by rw [cv_cat]; exact hc) (kk b D cA p e s m args below meth c H locs ls C hz hP hS hl)
theorem g_dup2 {v w : Value} (hd : decode Y.2.1 pc = .ok (.dup2, 1)) (hp : pc + 1 = pc1) (hc : v.category = 1) (hw : w.category = 1) (kk : Wp l Y E n k z pc1 lv (v :: w :: v :: w :: st) M L R Q) : Wp l Y E n k z pc lv (v :: w :: st) M L R Q := by
  subst hp
  intro b D cA p e s m args below meth c H locs ls C hz hP hS hl
  exact lv_dup2_11 C.1 C.2.1 hd (by rw [cv_cat]; exact hc) (by rw [cv_cat]; exact hw) (kk b D cA p e s m args below meth c H locs ls C hz hP hS hl)
theorem g_if_eq {x : Int32} {off : Int} {tgt : Nat} (hd : decode Y.2.1 pc = .ok (.ifCond .eq off, 3)) (ht : (pc : Int) + off = (tgt : Int)) (hp : pc + 3 = pc1) (kt : x = 0 → Wp l Y E n k z tgt lv st M L R Q) (kf : ¬ x = 0 → Wp l Y E n k z pc1 lv st M L R Q) : Wp l Y E n k z pc lv (.int x :: st) M L R Q := by
  subst hp
  intro b D cA p e s m args below meth c H locs ls C hz hP hS hl
  exact lv_if_eq C.1 C.2.1 hd ht (fun h => kt h b D cA p e s m args below meth c H locs ls C hz hP hS hl) (fun h => kf h b D cA p e s m args below meth c H locs ls C hz hP hS hl)
theorem g_icmp_eq {x y : Int32} {off : Int} {tgt : Nat} (hd : decode Y.2.1 pc = .ok (.if_icmp .eq off, 3)) (ht : (pc : Int) + off = (tgt : Int)) (hp : pc + 3 = pc1) (kt : x = y → Wp l Y E n k z tgt lv st M L R Q) (kf : ¬ x = y → Wp l Y E n k z pc1 lv st M L R Q) : Wp l Y E n k z pc lv (.int y :: .int x :: st) M L R Q := by
  subst hp
  intro b D cA p e s m args below meth c H locs ls C hz hP hS hl
  exact lv_icmp_eq C.1 C.2.1 hd ht (fun h => kt h b D cA p e s m args below meth c H locs ls C hz hP hS hl) (fun h => kf h b D cA p e s m args below meth c H locs ls C hz hP hS hl)
theorem g_if_ne {x : Int32} {off : Int} {tgt : Nat} (hd : decode Y.2.1 pc = .ok (.ifCond .ne off, 3)) (ht : (pc : Int) + off = (tgt : Int)) (hp : pc + 3 = pc1) (kt : ¬ x = 0 → Wp l Y E n k z tgt lv st M L R Q) (kf : x = 0 → Wp l Y E n k z pc1 lv st M L R Q) : Wp l Y E n k z pc lv (.int x :: st) M L R Q := by
  subst hp
  intro b D cA p e s m args below meth c H locs ls C hz hP hS hl
  exact lv_if_ne C.1 C.2.1 hd ht (fun h => kt h b D cA p e s m args below meth c H locs ls C hz hP hS hl) (fun h => kf h b D cA p e s m args below meth c H locs ls C hz hP hS hl)
theorem g_icmp_ne {x y : Int32} {off : Int} {tgt : Nat} (hd : decode Y.2.1 pc = .ok (.if_icmp .ne off, 3)) (ht : (pc : Int) + off = (tgt : Int)) (hp : pc + 3 = pc1) (kt : ¬ x = y → Wp l Y E n k z tgt lv st M L R Q) (kf : x = y → Wp l Y E n k z pc1 lv st M L R Q) : Wp l Y E n k z pc lv (.int y :: .int x :: st) M L R Q := by
  subst hp
  intro b D cA p e s m args below meth c H locs ls C hz hP hS hl
  exact lv_icmp_ne C.1 C.2.1 hd ht (fun h => kt h b D cA p e s m args below meth c H locs ls C hz hP hS hl) (fun h => kf h b D cA p e s m args below meth c H locs ls C hz hP hS hl)
theorem g_if_lt {x : Int32} {off : Int} {tgt : Nat} (hd : decode Y.2.1 pc = .ok (.ifCond .lt off, 3)) (ht : (pc : Int) + off = (tgt : Int)) (hp : pc + 3 = pc1) (kt : x < 0 → Wp l Y E n k z tgt lv st M L R Q) (kf : ¬ x < 0 → Wp l Y E n k z pc1 lv st M L R Q) : Wp l Y E n k z pc lv (.int x :: st) M L R Q := by
  subst hp
  intro b D cA p e s m args below meth c H locs ls C hz hP hS hl
  exact lv_if_lt C.1 C.2.1 hd ht (fun h => kt h b D cA p e s m args below meth c H locs ls C hz hP hS hl) (fun h => kf h b D cA p e s m args below meth c H locs ls C hz hP hS hl)
theorem g_icmp_lt {x y : Int32} {off : Int} {tgt : Nat} (hd : decode Y.2.1 pc = .ok (.if_icmp .lt off, 3)) (ht : (pc : Int) + off = (tgt : Int)) (hp : pc + 3 = pc1) (kt : x < y → Wp l Y E n k z tgt lv st M L R Q) (kf : ¬ x < y → Wp l Y E n k z pc1 lv st M L R Q) : Wp l Y E n k z pc lv (.int y :: .int x :: st) M L R Q := by
  subst hp
  intro b D cA p e s m args below meth c H locs ls C hz hP hS hl
  exact lv_icmp_lt C.1 C.2.1 hd ht (fun h => kt h b D cA p e s m args below meth c H locs ls C hz hP hS hl) (fun h => kf h b D cA p e s m args below meth c H locs ls C hz hP hS hl)
theorem g_if_ge {x : Int32} {off : Int} {tgt : Nat} (hd : decode Y.2.1 pc = .ok (.ifCond .ge off, 3)) (ht : (pc : Int) + off = (tgt : Int)) (hp : pc + 3 = pc1) (kt : 0 ≤ x → Wp l Y E n k z tgt lv st M L R Q) (kf : ¬ 0 ≤ x → Wp l Y E n k z pc1 lv st M L R Q) : Wp l Y E n k z pc lv (.int x :: st) M L R Q := by
  subst hp
  intro b D cA p e s m args below meth c H locs ls C hz hP hS hl
  exact lv_if_ge C.1 C.2.1 hd ht (fun h => kt h b D cA p e s m args below meth c H locs ls C hz hP hS hl) (fun h => kf h b D cA p e s m args below meth c H locs ls C hz hP hS hl)
theorem g_icmp_ge {x y : Int32} {off : Int} {tgt : Nat} (hd : decode Y.2.1 pc = .ok (.if_icmp .ge off, 3)) (ht : (pc : Int) + off = (tgt : Int)) (hp : pc + 3 = pc1) (kt : y ≤ x → Wp l Y E n k z tgt lv st M L R Q) (kf : ¬ y ≤ x → Wp l Y E n k z pc1 lv st M L R Q) : Wp l Y E n k z pc lv (.int y :: .int x :: st) M L R Q := by
  subst hp
  intro b D cA p e s m args below meth c H locs ls C hz hP hS hl
  exact lv_icmp_ge C.1 C.2.1 hd ht (fun h => kt h b D cA p e s m args below meth c H locs ls C hz hP hS hl) (fun h => kf h b D cA p e s m args below meth c H locs ls C hz hP hS hl)
theorem g_if_gt {x : Int32} {off : Int} {tgt : Nat} (hd : decode Y.2.1 pc = .ok (.ifCond .gt off, 3)) (ht : (pc : Int) + off = (tgt : Int)) (hp : pc + 3 = pc1) (kt : 0 < x → Wp l Y E n k z tgt lv st M L R Q) (kf : ¬ 0 < x → Wp l Y E n k z pc1 lv st M L R Q) : Wp l Y E n k z pc lv (.int x :: st) M L R Q := by
  subst hp
  intro b D cA p e s m args below meth c H locs ls C hz hP hS hl
  exact lv_if_gt C.1 C.2.1 hd ht (fun h => kt h b D cA p e s m args below meth c H locs ls C hz hP hS hl) (fun h => kf h b D cA p e s m args below meth c H locs ls C hz hP hS hl)
theorem g_icmp_gt {x y : Int32} {off : Int} {tgt : Nat} (hd : decode Y.2.1 pc = .ok (.if_icmp .gt off, 3)) (ht : (pc : Int) + off = (tgt : Int)) (hp : pc + 3 = pc1) (kt : y < x → Wp l Y E n k z tgt lv st M L R Q) (kf : ¬ y < x → Wp l Y E n k z pc1 lv st M L R Q) : Wp l Y E n k z pc lv (.int y :: .int x :: st) M L R Q := by
  subst hp
  intro b D cA p e s m args below meth c H locs ls C hz hP hS hl
  exact lv_icmp_gt C.1 C.2.1 hd ht (fun h => kt h b D cA p e s m args below meth c H locs ls C hz hP hS hl) (fun h => kf h b D cA p e s m args below meth c H locs ls C hz hP hS hl)
theorem g_if_le {x : Int32} {off : Int} {tgt : Nat} (hd : decode Y.2.1 pc = .ok (.ifCond .le off, 3)) (ht : (pc : Int) + off = (tgt : Int)) (hp : pc + 3 = pc1) (kt : x ≤ 0 → Wp l Y E n k z tgt lv st M L R Q) (kf : ¬ x ≤ 0 → Wp l Y E n k z pc1 lv st M L R Q) : Wp l Y E n k z pc lv (.int x :: st) M L R Q := by
  subst hp
  intro b D cA p e s m args below meth c H locs ls C hz hP hS hl
  exact lv_if_le C.1 C.2.1 hd ht (fun h => kt h b D cA p e s m args below meth c H locs ls C hz hP hS hl) (fun h => kf h b D cA p e s m args below meth c H locs ls C hz hP hS hl)
theorem g_icmp_le {x y : Int32} {off : Int} {tgt : Nat} (hd : decode Y.2.1 pc = .ok (.if_icmp .le off, 3)) (ht : (pc : Int) + off = (tgt : Int)) (hp : pc + 3 = pc1) (kt : x ≤ y → Wp l Y E n k z tgt lv st M L R Q) (kf : ¬ x ≤ y → Wp l Y E n k z pc1 lv st M L R Q) : Wp l Y E n k z pc lv (.int y :: .int x :: st) M L R Q := by
  subst hp
  intro b D cA p e s m args below meth c H locs ls C hz hP hS hl
  exact lv_icmp_le C.1 C.2.1 hd ht (fun h => kt h b D cA p e s m args below meth c H locs ls C hz hP hS hl) (fun h => kf h b D cA p e s m args below meth c H locs ls C hz hP hS hl)
theorem g_goto {off : Int} {tgt : Nat} (hd : decode Y.2.1 pc = .ok (.goto off, 3)) (ht : (pc : Int) + off = (tgt : Int)) (kk : Wp l Y E n k z tgt lv st M L R Q) : Wp l Y E n k z pc lv st M L R Q := by
  intro b D cA p e s m args below meth c H locs ls C hz hP hS hl
  exact lv_goto C.1 C.2.1 hd ht (kk b D cA p e s m args below meth c H locs ls C hz hP hS hl)

end RULES
/-! fields and arrays -/
def fOk (own : String) (index ci k kd : Nat) (fin : Bool) : Prop := ∃ (C : String) (T : u_T) (N : Nat), cls[ci]? = some (C, T, N) ∧ (∀ w ∈ u_ws C T N, w ∈ gtb) ∧ k < N ∧ (fks ci)[k]? = some (kd, k) ∧ (T k).1 = C ∧ (T k).2.2.2 = fin ∧
  ((Cond.fieldLink own index C (T k).2.1 (T k).2.2.1 ∈ gtb) ∨ ∃ host, Cond.fieldLinkNest own index C (T k).2.1 (T k).2.2.1 host ∈ tables_1)
def pOk (ci k : Nat) (v : Value) : Prop := ∃ (C : String) (T : u_T) (N : Nat) (ty0 : Nat → FieldType), cls[ci]? = some (C, T, N) ∧ (∀ j, j < N → parseFieldDescriptor (T j).2.2.1 = some (ty0 j)) ∧ (∀ a, a < N → ∀ b, b < N → a ≠ b → (T a).2.1 ≠ (T b).2.1) ∧ (fks ci).length = N ∧ (∀ (j : Nat) (q : Nat × Nat), (fks ci)[j]? = some q → q.2 = j) ∧
  narrow (ty0 k) v = v ∧ fits (ty0 k) v = true
theorem ent_obj {cA : Nat → ClassId} {b a ci : Nat} {M : gM} {L : gL} {R : gR} (hs : SH a = (0, ci)) : ent cA b M L R a = .inr (ci, (fks ci).map (fvl b M R a)) := by
  unfold ent; rw [hs]; rfl
theorem ent_1 {cA : Nat → ClassId} {b a N : Nat} {M : gM} {L : gL} {R : gR} (hs : SH a = (1, N)) : ent cA b M L R a = .inl (cA 0, N, .inl (M a)) := by
  unfold ent; rw [hs]; rfl
theorem ent_2 {cA : Nat → ClassId} {b a N : Nat} {M : gM} {L : gL} {R : gR} (hs : SH a = (2, N)) : ent cA b M L R a = .inl (cA 1, N, .inl (M a)) := by
  unfold ent; rw [hs]; rfl
theorem ent_3 {cA : Nat → ClassId} {b a N : Nat} {M : gM} {L : gL} {R : gR} (hs : SH a = (3, N)) : ent cA b M L R a = .inl (cA 2, N, .inl (M a)) := by
  unfold ent; rw [hs]; rfl
theorem ent_4 {cA : Nat → ClassId} {b a N : Nat} {M : gM} {L : gL} {R : gR} (hs : SH a = (4, N)) : ent cA b M L R a = .inl (cA 3, N, .inr (.inl (L a))) := by
  unfold ent; rw [hs]; rfl
theorem ent_5 {cA : Nat → ClassId} {b a N : Nat} {M : gM} {L : gL} {R : gR} (hs : SH a = (5, N)) : ent cA b M L R a = .inl (cA 4, N, .inr (.inr (.inr (.inr (fun j => (R a j).map (fun x => b + x)))))) := by
  unfold ent; rw [hs]; rfl
theorem ent_neM {cA : Nat → ClassId} {b a c i : Nat} {x : Int32} {M : gM} {L : gL} {R : gR} (h : c ≠ a) : ent cA b (uM M a i x) L R c = ent cA b M L R c := by
  have e : fvl b (uM M a i x) R c = fvl b M R c := by
    funext q; unfold fvl; rw [uM_ne M i x h]
  unfold ent
  rw [e, uM_ne M i x h]
theorem ent_neL {cA : Nat → ClassId} {b a c i : Nat} {x : Int64} {M : gM} {L : gL} {R : gR} (h : c ≠ a) : ent cA b M (uL L a i x) R c = ent cA b M L R c := by
  unfold ent
  rw [uL_ne L i x h]
theorem ent_neR {cA : Nat → ClassId} {b a c i : Nat} {x : Option Nat} {M : gM} {L : gL} {R : gR} (h : c ≠ a) : ent cA b M L (uR R a i x) c = ent cA b M L R c := by
  have e : fvl b M (uR R a i x) c = fvl b M R c := by
    funext q; unfold fvl; rw [uR_ne R i x h]
  unfold ent
  rw [e, uR_ne R i x h]
theorem fset_gen {ci k kd : Nat} {f g : Nat × Nat → Value} {v : Value} (hk : (fks ci)[k]? = some (kd, k)) (hj : ∀ (j : Nat) (q : Nat × Nat), (fks ci)[j]? = some q → q.2 = j) (hv : g (kd, k) = v) (ho : ∀ q : Nat × Nat, q.2 ≠ k → g q = f q) : ((fks ci).map f).set k v = (fks ci).map g := by
  apply List.ext_getElem?
  intro i
  rw [List.getElem?_set, List.getElem?_map, List.getElem?_map]
  by_cases h : k = i
  · subst h
    have hlt : k < (fks ci).length := (List.getElem?_eq_some_iff.mp hk).1
    rw [if_pos rfl, if_pos (by simpa using hlt), hk]
    simp [hv]
  · rw [if_neg h]
    cases hq : (fks ci)[i]? with
    | none => rfl
    | some q =>
      have := hj i q hq
      simp only [Option.map_some]
      rw [ho q (by omega)]
section RULES2
variable {l : Launch} {Y : gY} {E : Nat × Nat × Nat} {n k z pc pc1 : Nat} {lv lv' : List (Nat × Value)} {st : List Value} {M : gM} {L : gL} {R : gR} {Q : Option Value → gM → gL → gR → Prop}
theorem g_getAny {a ci j kd idx : Nat} {v : Value} (hd : decode Y.2.1 pc = .ok (.getfield idx, 3)) (hp : pc + 3 = pc1) (hf : ∃ fin, fOk Y.1.cls idx ci j kd fin) (hs : SH a = (0, ci)) (ha : a < n) (hv : ∀ b, fvl b M R a (kd, j) = cv b v) (kk : Wp l Y E n k z pc1 lv (v :: st) M L R Q) : Wp l Y E n k z pc lv (.ref a :: st) M L R Q := by
  subst hp
  intro b D cA p e s m args below meth c H locs ls C hz hP hS hl
  have kk := kk b D cA p e s m args below meth c H locs ls C hz hP hS hl
  obtain ⟨hx, hb, hr, hlk, hml, hown, hnm, hts, hK, hbs, hO⟩ := C
  obtain ⟨fin, Cn, T, N, hc, hin, hk, hkd, hdc, hfn, hlink⟩ := hf
  have he : (Wd cA b n M L R)[a]? = some (b + a, .inr (ci, (fks ci).map (fvl b M R a))) := by rw [wd_at ha, ent_obj hs]
  have hvv : ((fks ci).map (fvl b M R a))[j]? = some (cv b v) := by rw [List.getElem?_map, hkd]; exact congrArg some (hv b)
  rcases hlink with h1 | ⟨host, h1⟩
  · exact va_get (D := D) hx hb hts (fun w hw => List.mem_cons_of_mem _ (hin w hw)) hown hK.1 hP a he hc j hk (hts _ (List.mem_cons_of_mem _ h1)) (fun x h9 => by rw [← hdc]; exact h9) hvv hd kk
  · exact va_getN (D := D) hx hb hts (fun w hw => List.mem_cons_of_mem _ (hin w hw)) hown hK.1 hP a he hc j hk (va_Nw.use rfl (hK.2.1 _ h1 rfl)) (fun x h9 => by rw [← hdc]; exact h9) hvv hd kk
theorem g_geti {a ci j idx : Nat} (hd : decode Y.2.1 pc = .ok (.getfield idx, 3)) (hp : pc + 3 = pc1) (hf : ∃ fin, fOk Y.1.cls idx ci j 0 fin) (hs : SH a = (0, ci)) (ha : a < n) (kk : Wp l Y E n k z pc1 lv (.int (M a j) :: st) M L R Q) : Wp l Y E n k z pc lv (.ref a :: st) M L R Q :=
  g_getAny hd hp hf hs ha (fun b => rfl) kk
theorem g_getz {a ci j idx : Nat} (hd : decode Y.2.1 pc = .ok (.getfield idx, 3)) (hp : pc + 3 = pc1) (hf : ∃ fin, fOk Y.1.cls idx ci j 2 fin) (hs : SH a = (0, ci)) (ha : a < n) (kk : Wp l Y E n k z pc1 lv (.int (b01 (M a j)) :: st) M L R Q) : Wp l Y E n k z pc lv (.ref a :: st) M L R Q :=
  g_getAny hd hp hf hs ha (fun b => rfl) kk
theorem g_getr {a ci j idx a' : Nat} (hd : decode Y.2.1 pc = .ok (.getfield idx, 3)) (hp : pc + 3 = pc1) (hf : ∃ fin, fOk Y.1.cls idx ci j 1 fin) (hs : SH a = (0, ci)) (ha : a < n) (hr : R a j = some a') (kk : Wp l Y E n k z pc1 lv (.ref a' :: st) M L R Q) : Wp l Y E n k z pc lv (.ref a :: st) M L R Q :=
  g_getAny hd hp hf hs ha (fun b => by show va_rf ((R a j).map _) = _; rw [hr]; rfl) kk
theorem g_putAny {a ci j kd idx : Nat} {v : Value} {M' : gM} {R' : gR} (hd : decode Y.2.1 pc = .ok (.putfield idx, 3)) (hp : pc + 3 = pc1) (hf : fOk Y.1.cls idx ci j kd false) (hq : ∀ b, pOk ci j (cv b v)) (hs : SH a = (0, ci)) (ha : a < n) (hv : ∀ b, fvl b M' R' a (kd, j) = cv b v) (ho : ∀ b (q : Nat × Nat), q.2 ≠ j → fvl b M' R' a q = fvl b M R a q) (he : ∀ cA b c, c ≠ a → ent cA b M' L R' c = ent cA b M L R c) (kk : Wp l Y E n k z pc1 lv st M' L R' Q) : Wp l Y E n k z pc lv (v :: .ref a :: st) M L R Q := by
  subst hp
  intro b D cA p e s m args below meth c H locs ls C hz hP hS hl
  have kk := fun H1 locs1 hP1 hS1 => kk b D cA p e s m args below meth c H1 locs1 ls C hz hP1 hS1 hl
  obtain ⟨hx, hb, hr, hlk, hml, hown, hnm, hts, hK, hbs, hO⟩ := C
  obtain ⟨Cn, T, N, hc, hin, hk, hkd, hdc, hfn, hlink⟩ := hf
  obtain ⟨Cn', T', N', ty0, hc', hty, hnn, hln, hjj, hnar, hfit⟩ := hq b
  cases hc.symm.trans hc'
  have he0 : (Wd cA b n M L R)[a]? = some (b + a, .inr (ci, (fks ci).map (fvl b M R a))) := by rw [wd_at ha, ent_obj hs]
  have hset : (Wd cA b n M L R).set a (b + a, .inr (ci, ((fks ci).map (fvl b M R a)).set j (cv b v))) = Wd cA b n M' L R' := by
    rw [fset_gen hkd hjj (hv b) (ho b), ← ent_obj (L := L) (cA := cA) hs]
    exact wd_set ha (fun c h => he cA b c h)
  have hlt : j < ((fks ci).map (fvl b M R a)).length := by simpa [hln] using hk
  rcases hlink with h1 | ⟨host, h1⟩
  · refine va_put (D := D) hx hb hts (fun w hw => List.mem_cons_of_mem _ (hin w hw)) ty0 hty hnn hown hK.1 hP wd_D hS a he0 hc j hk (hts _ (List.mem_cons_of_mem _ h1)) (fun x h9 => by rw [← hdc]; exact h9) hfn (hty j hk) hnar hfit hlt hd (fun H1 locs1 hP1 hD1 hS1 => ?_)
    rw [hset] at hP1
    exact kk H1 locs1 hP1 hS1
  · refine va_putN (D := D) hx hb hts (fun w hw => List.mem_cons_of_mem _ (hin w hw)) ty0 hty hnn hown hK.1 hP wd_D hS a he0 hc j hk (va_Nw.use rfl (hK.2.1 _ h1 rfl)) (fun x h9 => by rw [← hdc]; exact h9) hfn (hty j hk) hnar hfit hlt hd (fun H1 locs1 hP1 hD1 hS1 => ?_)
    rw [hset] at hP1
    exact kk H1 locs1 hP1 hS1
theorem g_putF {a ci j kd idx : Nat} {v : Value} {M' : gM} {R' : gR} (hd : decode Y.2.1 pc = .ok (.putfield idx, 3)) (hp : pc + 3 = pc1) (hin2 : Y.1.name = "<init>") (hf : ∃ (T : u_T) (N : Nat), cls[ci]? = some (Y.1.cls, T, N) ∧ (∀ w ∈ u_ws Y.1.cls T N, w ∈ gtb) ∧ j < N ∧ (fks ci)[j]? = some (kd, j) ∧ (T j).1 = Y.1.cls ∧ (T j).2.2.2 = true ∧ Cond.fieldLink Y.1.cls idx Y.1.cls (T j).2.1 (T j).2.2.1 ∈ gtb) (hq : ∀ b, pOk ci j (cv b v)) (hs : SH a = (0, ci)) (ha : a < n) (hv : ∀ b, fvl b M' R' a (kd, j) = cv b v) (ho : ∀ b (q : Nat × Nat), q.2 ≠ j → fvl b M' R' a q = fvl b M R a q) (he : ∀ cA b c, c ≠ a → ent cA b M' L R' c = ent cA b M L R c) (kk : Wp l Y E n k z pc1 lv st M' L R' Q) : Wp l Y E n k z pc lv (v :: .ref a :: st) M L R Q := by
  subst hp
  intro b D cA p e s m args below meth c H locs ls C hz hP hS hl
  have kk := fun H1 locs1 hP1 hS1 => kk b D cA p e s m args below meth c H1 locs1 ls C hz hP1 hS1 hl
  obtain ⟨hx, hb, hr, hlk, hml, hown, hnm, hts, hK, hbs, hO⟩ := C
  obtain ⟨T, N, hc, hin, hk, hkd, hdc, hfn, h1⟩ := hf
  obtain ⟨Cn', T', N', ty0, hc', hty, hnn, hln, hjj, hnar, hfit⟩ := hq b
  cases hc.symm.trans hc'
  have he0 : (Wd cA b n M L R)[a]? = some (b + a, .inr (ci, (fks ci).map (fvl b M R a))) := by rw [wd_at ha, ent_obj hs]
  have hset : (Wd cA b n M L R).set a (b + a, .inr (ci, ((fks ci).map (fvl b M R a)).set j (cv b v))) = Wd cA b n M' L R' := by
    rw [fset_gen hkd hjj (hv b) (ho b), ← ent_obj (L := L) (cA := cA) hs]
    exact wd_set ha (fun c h => he cA b c h)
  have hlt : j < ((fks ci).map (fvl b M R a)).length := by simpa [hln] using hk
  refine va_putF (D := D) hx hb hts (fun w hw => List.mem_cons_of_mem _ (hin w hw)) ty0 hty hnn hown hK.1 hP wd_D hS a he0 hc j hk (hts _ (List.mem_cons_of_mem _ h1)) (fun x h9 => by rw [← hdc]; exact h9) hfn (by rw [hnm]; exact hin2) hdc (hty j hk) hnar hfit hlt hd (fun H1 locs1 hP1 hD1 hS1 => ?_)
  rw [hset] at hP1
  exact kk H1 locs1 hP1 hS1
theorem fvl_M_self {a j b : Nat} {x : Int32} : fvl b (uM M a j x) R a (0, j) = cv b (.int x) := by
  show Value.int (uM M a j x a j) = Value.int x
  rw [uM_at, if_pos ⟨rfl, rfl⟩]
theorem fvl_M_ne {a j b : Nat} {x : Int32} (q : Nat × Nat) (h : q.2 ≠ j) : fvl b (uM M a j x) R a q = fvl b M R a q := by
  unfold fvl
  rw [uM_at, if_neg (fun g => h g.2)]
theorem fvl_R_self {a j b a' : Nat} : fvl b M (uR R a j (some a')) a (1, j) = cv b (.ref a') := by
  show va_rf ((uR R a j (some a') a j).map _) = _
  rw [uR_at, if_pos ⟨rfl, rfl⟩]
  rfl
theorem fvl_R_ne {a j b : Nat} {x : Option Nat} (q : Nat × Nat) (h : q.2 ≠ j) : fvl b M (uR R a j x) a q = fvl b M R a q := by
  unfold fvl
  rw [uR_at, if_neg (fun g => h g.2)]
theorem g_puti {a ci j idx : Nat} {x : Int32} (hd : decode Y.2.1 pc = .ok (.putfield idx, 3)) (hp : pc + 3 = pc1) (hf : fOk Y.1.cls idx ci j 0 false) (hq : pOk ci j (.int x)) (hs : SH a = (0, ci)) (ha : a < n) (kk : Wp l Y E n k z pc1 lv st (uM M a j x) L R Q) : Wp l Y E n k z pc lv (.int x :: .ref a :: st) M L R Q :=
  g_putAny hd hp hf (fun _ => hq) hs ha (fun _ => fvl_M_self) (fun _ q h => fvl_M_ne q h) (fun _ _ _ h => ent_neM h) kk
theorem g_putz {a ci j idx : Nat} {x : Int32} (hd : decode Y.2.1 pc = .ok (.putfield idx, 3)) (hp : pc + 3 = pc1) (hf : fOk Y.1.cls idx ci j 2 false) (hq : pOk ci j (.int x)) (hx : b01 x = x) (hs : SH a = (0, ci)) (ha : a < n) (kk : Wp l Y E n k z pc1 lv st (uM M a j x) L R Q) : Wp l Y E n k z pc lv (.int x :: .ref a :: st) M L R Q :=
  g_putAny hd hp hf (fun _ => hq) hs ha (fun b => by show Value.int (b01 (uM M a j x a j)) = Value.int x; rw [uM_at, if_pos ⟨rfl, rfl⟩, hx]) (fun _ q h => fvl_M_ne q h) (fun _ _ _ h => ent_neM h) kk
theorem g_putr {a ci j idx a' : Nat} (hd : decode Y.2.1 pc = .ok (.putfield idx, 3)) (hp : pc + 3 = pc1) (hf : fOk Y.1.cls idx ci j 1 false) (hq : ∀ q, pOk ci j (.ref q)) (hs : SH a = (0, ci)) (ha : a < n) (kk : Wp l Y E n k z pc1 lv st M L (uR R a j (some a')) Q) : Wp l Y E n k z pc lv (.ref a' :: .ref a :: st) M L R Q :=
  g_putAny hd hp hf (fun _ => hq _) hs ha (fun _ => fvl_R_self) (fun _ q h => fvl_R_ne q h) (fun _ _ _ h => ent_neR h) kk
/-- arrays -/
theorem g_iald {a N : Nat} {i : Int32} (hd : decode Y.2.1 pc = .ok (.iaload, 1)) (hp : pc + 1 = pc1) (hs : SH a = (1, N)) (ha : a < n) (hin : vp_in i N) (kk : Wp l Y E n k z pc1 lv (.int (M a i.toNatClampNeg) :: st) M L R Q) : Wp l Y E n k z pc lv (.int i :: .ref a :: st) M L R Q := by
  subst hp
  intro b D cA p e s m args below meth c H locs ls C hz hP hS hl
  exact va_iald (D := D) C.1 C.2.1 C.2.2.2.2.2.2.2.2.1.1 hP a 0 (by rw [wd_at ha, ent_1 hs]) rfl hin hd (kk b D cA p e s m args below meth c H locs ls C hz hP hS hl)
theorem g_bald {a N : Nat} {i : Int32} (hd : decode Y.2.1 pc = .ok (.baload, 1)) (hp : pc + 1 = pc1) (hs : SH a = (2, N)) (ha : a < n) (hin : vp_in i N) (kk : Wp l Y E n k z pc1 lv (.int (M a i.toNatClampNeg) :: st) M L R Q) : Wp l Y E n k z pc lv (.int i :: .ref a :: st) M L R Q := by
  subst hp
  intro b D cA p e s m args below meth c H locs ls C hz hP hS hl
  exact va_bald (D := D) C.1 C.2.1 C.2.2.2.2.2.2.2.2.1.1 hP a 1 (by rw [wd_at ha, ent_2 hs]) rfl hin hd (kk b D cA p e s m args below meth c H locs ls C hz hP hS hl)
theorem g_zald {a N : Nat} {i : Int32} (hd : decode Y.2.1 pc = .ok (.baload, 1)) (hp : pc + 1 = pc1) (hs : SH a = (3, N)) (ha : a < n) (hin : vp_in i N) (kk : Wp l Y E n k z pc1 lv (.int (M a i.toNatClampNeg) :: st) M L R Q) : Wp l Y E n k z pc lv (.int i :: .ref a :: st) M L R Q := by
  subst hp
  intro b D cA p e s m args below meth c H locs ls C hz hP hS hl
  exact va_zald (D := D) C.1 C.2.1 C.2.2.2.2.2.2.2.2.1.1 hP a 2 (by rw [wd_at ha, ent_3 hs]) rfl hin hd (kk b D cA p e s m args below meth c H locs ls C hz hP hS hl)
theorem g_lald {a N : Nat} {i : Int32} (hd : decode Y.2.1 pc = .ok (.laload, 1)) (hp : pc + 1 = pc1) (hs : SH a = (4, N)) (ha : a < n) (hin : vp_in i N) (kk : Wp l Y E n k z pc1 lv (.long (L a i.toNatClampNeg) :: st) M L R Q) : Wp l Y E n k z pc lv (.int i :: .ref a :: st) M L R Q := by
  subst hp
  intro b D cA p e s m args below meth c H locs ls C hz hP hS hl
  exact va_lald (D := D) C.1 C.2.1 C.2.2.2.2.2.2.2.2.1.1 hP a 3 (by rw [wd_at ha, ent_4 hs]) rfl hin hd (kk b D cA p e s m args below meth c H locs ls C hz hP hS hl)
theorem g_aald {a a' N : Nat} {i : Int32} (hd : decode Y.2.1 pc = .ok (.aaload, 1)) (hp : pc + 1 = pc1) (hs : SH a = (5, N)) (ha : a < n) (hin : vp_in i N) (hr : R a i.toNatClampNeg = some a') (kk : Wp l Y E n k z pc1 lv (.ref a' :: st) M L R Q) : Wp l Y E n k z pc lv (.int i :: .ref a :: st) M L R Q := by
  subst hp
  intro b D cA p e s m args below meth c H locs ls C hz hP hS hl
  refine va_aldq (D := D) C.1 C.2.1 C.2.2.2.2.2.2.2.2.1.1 hP a 4 (by rw [wd_at ha, ent_5 hs]) rfl hin hd ?_
  rw [hr]
  exact kk b D cA p e s m args below meth c H locs ls C hz hP hS hl
theorem g_iast {a N : Nat} {i x : Int32} (hd : decode Y.2.1 pc = .ok (.iastore, 1)) (hp : pc + 1 = pc1) (hs : SH a = (1, N)) (ha : a < n) (hin : vp_in i N) (kk : Wp l Y E n k z pc1 lv st (uM M a i.toNatClampNeg x) L R Q) : Wp l Y E n k z pc lv (.int x :: .int i :: .ref a :: st) M L R Q := by
  subst hp
  intro b D cA p e s m args below meth c H locs ls C hz hP hS hl
  refine va_iast (D := D) C.1 C.2.1 C.2.2.2.2.2.2.2.2.1.1 hP wd_D hS a 0 (by rw [wd_at ha, ent_1 hs]) rfl hin hd (fun H1 locs1 hP1 hD1 hS1 => ?_)
  rw [← uM_row, ← ent_1 (cA := cA) (b := b) (L := L) (R := R) hs, wd_set ha (fun c h => ent_neM h)] at hP1
  exact kk b D cA p e s m args below meth c H1 locs1 ls C hz hP1 hS1 hl
theorem g_bast {a N : Nat} {i x : Int32} (hd : decode Y.2.1 pc = .ok (.bastore, 1)) (hp : pc + 1 = pc1) (hs : SH a = (2, N)) (ha : a < n) (hin : vp_in i N) (kk : Wp l Y E n k z pc1 lv st (uM M a i.toNatClampNeg (vp_nar .byte x)) L R Q) : Wp l Y E n k z pc lv (.int x :: .int i :: .ref a :: st) M L R Q := by
  subst hp
  intro b D cA p e s m args below meth c H locs ls C hz hP hS hl
  refine va_bast (D := D) C.1 C.2.1 C.2.2.2.2.2.2.2.2.1.1 hP wd_D hS a 1 (by rw [wd_at ha, ent_2 hs]) rfl hin hd (fun H1 locs1 hP1 hD1 hS1 => ?_)
  rw [← uM_row, ← ent_2 (cA := cA) (b := b) (L := L) (R := R) hs, wd_set ha (fun c h => ent_neM h)] at hP1
  exact kk b D cA p e s m args below meth c H1 locs1 ls C hz hP1 hS1 hl
theorem g_zast {a N : Nat} {i x : Int32} (hd : decode Y.2.1 pc = .ok (.bastore, 1)) (hp : pc + 1 = pc1) (hs : SH a = (3, N)) (ha : a < n) (hin : vp_in i N) (kk : Wp l Y E n k z pc1 lv st (uM M a i.toNatClampNeg (vp_nar .boolean x)) L R Q) : Wp l Y E n k z pc lv (.int x :: .int i :: .ref a :: st) M L R Q := by
  subst hp
  intro b D cA p e s m args below meth c H locs ls C hz hP hS hl
  refine va_zast (D := D) C.1 C.2.1 C.2.2.2.2.2.2.2.2.1.1 hP wd_D hS a 2 (by rw [wd_at ha, ent_3 hs]) rfl hin hd (fun H1 locs1 hP1 hD1 hS1 => ?_)
  rw [← uM_row, ← ent_3 (cA := cA) (b := b) (L := L) (R := R) hs, wd_set ha (fun c h => ent_neM h)] at hP1
  exact kk b D cA p e s m args below meth c H1 locs1 ls C hz hP1 hS1 hl
theorem g_last {a N : Nat} {i : Int32} {x : Int64} (hd : decode Y.2.1 pc = .ok (.lastore, 1)) (hp : pc + 1 = pc1) (hs : SH a = (4, N)) (ha : a < n) (hin : vp_in i N) (kk : Wp l Y E n k z pc1 lv st M (uL L a i.toNatClampNeg x) R Q) : Wp l Y E n k z pc lv (.long x :: .int i :: .ref a :: st) M L R Q := by
  subst hp
  intro b D cA p e s m args below meth c H locs ls C hz hP hS hl
  refine va_last (D := D) C.1 C.2.1 C.2.2.2.2.2.2.2.2.1.1 hP wd_D hS a 3 (by rw [wd_at ha, ent_4 hs]) rfl hin hd (fun H1 locs1 hP1 hD1 hS1 => ?_)
  rw [← uL_row, ← ent_4 (cA := cA) (b := b) (M := M) (R := R) hs, wd_set ha (fun c h => ent_neL h)] at hP1
  exact kk b D cA p e s m args below meth c H1 locs1 ls C hz hP1 hS1 hl
theorem g_aast {a a' ci N : Nat} {i : Int32} {r : vw_C} (hd : decode Y.2.1 pc = .ok (.aastore, 1)) (hp : pc + 1 = pc1) (hs : SH a = (5, N)) (ha : a < n) (hin : vp_in i N) (hs' : SH a' = (0, ci)) (ha' : a' < n) (hc : cls[ci]? = some r) (hcn : r.1 = "CookedLaw$State") (kk : Wp l Y E n k z pc1 lv st M L (uR R a i.toNatClampNeg (some a')) Q) : Wp l Y E n k z pc lv (.ref a' :: .int i :: .ref a :: st) M L R Q := by
  subst hp
  intro b D cA p e s m args below meth c H locs ls C hz hP hS hl
  refine va_astq (D := D) C.1 C.2.1 C.2.2.2.2.2.2.2.2.1.1 hP wd_D hS a 4 a' ci (by rw [wd_at ha, ent_5 hs]) (by rw [hcn]; rfl) (by rw [wd_at ha', ent_obj hs']) hc hin hd (fun H1 locs1 hP1 hD1 hS1 => ?_)
  have e1 : (va_up (fun j => (R a j).map (fun x => b + x)) i.toNatClampNeg (some (b + a'))) = fun j => ((uR R a i.toNatClampNeg (some a')) a j).map (fun x => b + x) := by
    funext j
    rw [uR_row]
    unfold va_up
    split <;> rfl
  rw [e1, ← ent_5 (cA := cA) (b := b) (M := M) (L := L) hs, wd_set ha (fun c h => ent_neR h)] at hP1
  exact kk b D cA p e s m args below meth c H1 locs1 ls C hz hP1 hS1 hl
theorem g_alen {a kd N : Nat} {v : Int32} (hd : decode Y.2.1 pc = .ok (.arraylength, 1)) (hp : pc + 1 = pc1) (hs : SH a = (kd, N)) (h1 : 1 ≤ kd) (h5 : kd ≤ 5) (ha : a < n) (hv : Int32.ofNat N = v) (kk : Wp l Y E n k z pc1 lv (.int v :: st) M L R Q) : Wp l Y E n k z pc lv (.ref a :: st) M L R Q := by
  subst hp
  intro b D cA p e s m args below meth c H locs ls C hz hP hS hl
  have kk := kk b D cA p e s m args below meth c H locs ls C hz hP hS hl
  obtain rfl | rfl | rfl | rfl | rfl : kd = 1 ∨ kd = 2 ∨ kd = 3 ∨ kd = 4 ∨ kd = 5 := by omega
  · exact va_alen (D := D) C.1 C.2.1 C.2.2.2.2.2.2.2.2.1.1 hP a 0 (by rw [wd_at ha, ent_1 hs]) rfl hv hd kk
  · exact va_alen (D := D) C.1 C.2.1 C.2.2.2.2.2.2.2.2.1.1 hP a 1 (by rw [wd_at ha, ent_2 hs]) rfl hv hd kk
  · exact va_alen (D := D) C.1 C.2.1 C.2.2.2.2.2.2.2.2.1.1 hP a 2 (by rw [wd_at ha, ent_3 hs]) rfl hv hd kk
  · exact va_alen (D := D) C.1 C.2.1 C.2.2.2.2.2.2.2.2.1.1 hP a 3 (by rw [wd_at ha, ent_4 hs]) rfl hv hd kk
  · exact va_alen (D := D) C.1 C.2.1 C.2.2.2.2.2.2.2.2.1.1 hP a 4 (by rw [wd_at ha, ent_5 hs]) rfl hv hd kk
theorem g_lcmp {x y : Int64} (hd : decode Y.2.1 pc = .ok (.lcmp, 1)) (hp : pc + 1 = pc1) (kk : Wp l Y E n k z pc1 lv (.int (lg_cmp x y) :: st) M L R Q) : Wp l Y E n k z pc lv (.long y :: .long x :: st) M L R Q := by
  subst hp
  intro b D cA p e s m args below meth c H locs ls C hz hP hS hl
  exact W.lcmp C.1 C.2.1 hd (kk b D cA p e s m args below meth c H locs ls C hz hP hS hl)
theorem g_tabOut {dflt lo hi : Int} {offs : Array Int} {len : Nat} {x : Int32} {tgt : Nat} (hd : decode Y.2.1 pc = .ok (.tableswitch dflt lo hi offs, len)) (h : x.toInt < lo ∨ hi < x.toInt) (ht : (pc : Int) + dflt = (tgt : Int)) (kk : Wp l Y E n k z tgt lv st M L R Q) : Wp l Y E n k z pc lv (.int x :: st) M L R Q := by
  intro b D cA p e s m args below meth c H locs ls C hz hP hS hl
  exact lv_tableOut C.1 C.2.1 hd h ht (kk b D cA p e s m args below meth c H locs ls C hz hP hS hl)
theorem g_tabIn {dflt lo hi : Int} {offs : Array Int} {len : Nat} {x : Int32} {off : Int} {tgt : Nat} (hd : decode Y.2.1 pc = .ok (.tableswitch dflt lo hi offs, len)) (h1 : ¬ x.toInt < lo) (h2 : ¬ hi < x.toInt) (ho : offs[(x.toInt - lo).toNat]? = some off) (ht : (pc : Int) + off = (tgt : Int)) (kk : Wp l Y E n k z tgt lv st M L R Q) : Wp l Y E n k z pc lv (.int x :: st) M L R Q := by
  intro b D cA p e s m args below meth c H locs ls C hz hP hS hl
  exact lv_tableIn C.1 C.2.1 hd h1 h2 ho ht (kk b D cA p e s m args below meth c H locs ls C hz hP hS hl)
theorem g_nonnull {x : Nat} {off : Int} {tgt : Nat} (hd : decode Y.2.1 pc = .ok (.ifnonnull off, 3)) (ht : (pc : Int) + off = (tgt : Int)) (kk : Wp l Y E n k z tgt lv st M L R Q) : Wp l Y E n k z pc lv (.ref x :: st) M L R Q := by
  intro b D cA p e s m args below meth c H locs ls C hz hP hS hl
  exact lv_ifnonnull C.1 C.2.1 hd ht (kk b D cA p e s m args below meth c H locs ls C hz hP hS hl)
theorem g_null {x : Nat} {off : Int} (hd : decode Y.2.1 pc = .ok (.ifnull off, 3)) (hp : pc + 3 = pc1) (kk : Wp l Y E n k z pc1 lv st M L R Q) : Wp l Y E n k z pc lv (.ref x :: st) M L R Q := by
  subst hp
  intro b D cA p e s m args below meth c H locs ls C hz hP hS hl
  exact lv_ifnull C.1 C.2.1 hd (kk b D cA p e s m args below meth c H locs ls C hz hP hS hl)
/-- returns -/
theorem g_ireturn {x : Int32} (hr : Y.2.2.2.1 = some .int ∨ (Y.2.2.2.1 = some .boolean ∧ narrow .boolean (.int x) = .int x)) (hd : decode Y.2.1 pc = .ok (.ireturn, 1)) (hE : n = E.2.2) (kk : Q (some (.int x)) M L R) : Wp l Y E n E.1 E.2.1 pc lv [.int x] M L R Q := by
  intro b D cA p e s m args below meth c H locs ls C hz hP hS hl
  subst hE
  have hq : ∀ t : State, t.heap = H → s.WarmedH t.vm → gQ b D cA E.2.2 Q args s (.returned (some (.int x))) t := fun t ht hW => ⟨⟨some (.int x), M, L, R, rfl, kk, by rw [ht]; exact hP⟩, hS.F ht⟩
  rcases hr with hr | ⟨hr, hn⟩
  · exact W.iret C.1 C.2.1 (C.2.2.1.trans hr) hq hS.2.2 hd (hlocks := C.2.2.2.1)
  · exact W.zret C.1 C.2.1 (C.2.2.1.trans hr) hn hq hS.2.2 hd (hlocks := C.2.2.2.1)
theorem g_lreturn {x : Int64} (hr : Y.2.2.2.1 = some .long) (hd : decode Y.2.1 pc = .ok (.lreturn, 1)) (hE : n = E.2.2) (kk : Q (some (.long x)) M L R) : Wp l Y E n E.1 E.2.1 pc lv [.long x] M L R Q := by
  intro b D cA p e s m args below meth c H locs ls C hz hP hS hl
  subst hE
  exact W.lret C.1 C.2.1 (C.2.2.1.trans hr) (fun t ht hW => ⟨⟨some (.long x), M, L, R, rfl, kk, by rw [ht]; exact hP⟩, hS.F ht⟩) hS.2.2 hd (hlocks := C.2.2.2.1)
theorem g_return (hr : Y.2.2.2.1 = none) (hd : decode Y.2.1 pc = .ok (.return_, 1)) (hE : n = E.2.2) (kk : Q none M L R) : Wp l Y E n E.1 E.2.1 pc lv [] M L R Q := by
  intro b D cA p e s m args below meth c H locs ls C hz hP hS hl
  subst hE
  exact W.vret C.1 C.2.1 (C.2.2.1.trans hr) (fun t ht hW => ⟨⟨none, M, L, R, rfl, kk, by rw [ht]; exact hP⟩, hS.F ht⟩) hS.2.2 hd (hlocks := C.2.2.2.1)
end RULES2
