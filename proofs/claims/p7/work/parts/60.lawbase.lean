/-! THE CLAIM OUT OF ONE WALK OF THE LAW'S BODY. Your part is whole_start (and what it stands on); all else here is the same for every law, but numbers. -/
def R_law : String := "CookedLawLaw"
def lw_P (b : Addr) (xs : List Int32) (args : Array Value) (s : State) : Prop := args = #[.ref b] ∧ s.IntsAt b xs ∧ xs.length ≤ 3072 ∧ (Jvm.Cond.and given_1 narrow_1).before args s = true
def lw_Q (_ : Array Value) (s : State) (o : Outcome) (t : State) : Prop := o = .returned (some (.int 1)) ∧ Framed s o t [] 600000 7302249
def lw_Z (below : List Frame) (a : Array Value) (s : State) : State → Prop := fun t => ∃ o, t.status = .running ∧ Ended t below o ∧ lw_Q a s o t
/-- the law's own end, with 1 on the stack, nothing written that was there before, its room as the claim has it -/
theorem lw_ret {p : Program} {l : Launch} {e : Env} {s : State} {m : MethodId} {below : List Frame} {meth : Method} {c : Code} {b : Nat} (hx : p.tables.exec = Jvm.exec) (hb : c.code = code) (hr : meth.sig.returnType = ret) (hlocks : meth.locks = false) {pc : Nat} {H : Heap} {ls : Array Slot} (hdg : decode code pc = .ok (.ireturn, 1)) : W p l e room_1 s m #[Value.ref b] below meth c H [] 600000 7302249 (lw_Z below #[Value.ref b] s) (F0 m pc ls [.int 1]) := by
  intro T hT X
  obtain ⟨fs, hret, hrun, hended, hW, hframe⟩ := X.leave (v := some (.int 1)) (hlocks := hlocks) (fun h => by rw [hr] at h; cases h)
  have hmeth' : T.vm.method? m = some meth := X.method'
  refine ⟨T.setFrames fs, ?_, .returned (some (.int 1)), hrun, hended, rfl, ⟨_, rfl⟩, hW, hframe⟩
  jvm_step X.here [X.here.top, hx, hb, hdg, hmeth', hr, ret, narrow_b1]
  (try refine ⟨rfl, ?_⟩); (try refine ⟨rfl, ?_⟩)
  first | (intro acts; rw [hret _ acts rfl rfl rfl]) | rw [hret _ _ rfl rfl rfl]
  exact Steps.refl _
/-- what holds at the law's entry: the machine, the code, the tables' words (any of lw_tbl by 'hts w (by decide +kernel)'), the script of L ints xs at the cell b, what the Statement gives of the start (any of its parts by flat_of_before) -/
def lw_At (p : Program) (s : State) (m : MethodId) (meth : Method) (c : Code) (b L : Nat) (xs : Nat → Int32) : Prop :=
  p.tables.exec = Jvm.exec ∧ c.code = code ∧ meth.sig.returnType = ret ∧ c.maxLocals = 4 ∧ s.vm.findClass R_law = some m.cls ∧ (∀ w ∈ lw_tbl, w.before #[Value.ref b] s = true) ∧ va_X b L xs s s.heap ∧ b < s.heap.size ∧ meth.locks = false ∧ (Jvm.Cond.and given_1 narrow_1).before #[Value.ref b] s = true
theorem op_32 (x : Int32) : x &&& 31 = 0 ∨ x &&& 31 = 1 ∨ x &&& 31 = 2 ∨ x &&& 31 = 3 ∨ x &&& 31 = 4 ∨ x &&& 31 = 5 ∨ x &&& 31 = 6 ∨ x &&& 31 = 7 ∨ x &&& 31 = 8 ∨ x &&& 31 = 9 ∨ x &&& 31 = 10 ∨ x &&& 31 = 11 ∨ x &&& 31 = 12 ∨ x &&& 31 = 13 ∨ x &&& 31 = 14 ∨ x &&& 31 = 15 ∨ x &&& 31 = 16 ∨ x &&& 31 = 17 ∨ x &&& 31 = 18 ∨ x &&& 31 = 19 ∨ x &&& 31 = 20 ∨ x &&& 31 = 21 ∨ x &&& 31 = 22 ∨ x &&& 31 = 23 ∨ x &&& 31 = 24 ∨ x &&& 31 = 25 ∨ x &&& 31 = 26 ∨ x &&& 31 = 27 ∨ x &&& 31 = 28 ∨ x &&& 31 = 29 ∨ x &&& 31 = 30 ∨ x &&& 31 = 31 := by
  have h1 : (x &&& 31).toBitVec.toNat < 32 := by
    show (x.toBitVec &&& (31 : Int32).toBitVec).toNat < 32
    rw [BitVec.toNat_and]
    exact Nat.lt_of_le_of_lt Nat.and_le_right (by decide)
  generalize x &&& 31 = y at h1 ⊢
  have h2 : ∀ n : Nat, n < 32 → ∀ y : Int32, y.toBitVec.toNat = n → y = Int32.ofNat n := by
    intro n hn y hy
    apply Int32.toBitVec_inj.mp
    apply BitVec.eq_of_toNat_eq
    rw [hy]
    show n = n % 2 ^ 32
    omega
  have h3 := h2 _ h1 y rfl
  generalize y.toBitVec.toNat = n at h1 h3
  have : ∀ n : Nat, n < 32 → ∀ y : Int32, y = Int32.ofNat n → (n = 0 ∨ n = 1 ∨ n = 2 ∨ n = 3 ∨ n = 4 ∨ n = 5 ∨ n = 6 ∨ n = 7 ∨ n = 8 ∨ n = 9 ∨ n = 10 ∨ n = 11 ∨ n = 12 ∨ n = 13 ∨ n = 14 ∨ n = 15 ∨ n = 16 ∨ n = 17 ∨ n = 18 ∨ n = 19 ∨ n = 20 ∨ n = 21 ∨ n = 22 ∨ n = 23 ∨ n = 24 ∨ n = 25 ∨ n = 26 ∨ n = 27 ∨ n = 28 ∨ n = 29 ∨ n = 30 ∨ n = 31) := by
    intro n hn y hy; omega
  rcases this n h1 y h3 with h | h | h | h | h | h | h | h | h | h | h | h | h | h | h | h | h | h | h | h | h | h | h | h | h | h | h | h | h | h | h | h <;> subst h <;> subst h3 <;> decide
/-! the law's own judgement: the script stays outside the picture, whose cells stand from the entry's heap on -/
def ZC (p : Program) (s : State) (m : MethodId) (meth : Method) (c : Code) (bs Lx : Nat) (xs : Nat → Int32) (D : va_G) (cA : Nat → ClassId) : Prop :=
  p.tables.exec = Jvm.exec ∧ c.code = code ∧ meth.sig.returnType = ret ∧ c.maxLocals = 4 ∧ s.vm.findClass R_law = some m.cls ∧ (∀ w ∈ lw_tbl, w.before #[Value.ref bs] s = true) ∧ va_X bs Lx xs s s.heap ∧ bs < s.heap.size ∧ meth.locks = false ∧ gK D cA s ∧ gO s.heap.size s s.heap
def Zw (l : Launch) (p : Program) (e : Env) (s : State) (m : MethodId) (below : List Frame) (meth : Method) (c : Code) (bs Lx : Nat) (xs : Nat → Int32) (D : va_G) (cA : Nat → ClassId) (k z pc : Nat) (lv : List (Nat × Value)) (st : List Value) (M : gM) (L : gL) (R : gR) : Prop :=
  ∀ (H : Heap) (locs : List Loc) (ls : Array Slot), va_P D cls (Wd cA s.heap.size k M L R) H → va_S (fun q => s.heap.size ≤ q) s.heap H locs → lv_has ls 4 lv → W p l e room_1 s m #[Value.ref bs] below meth c H locs k z (lw_Z below #[Value.ref bs] s) (F0 m pc ls st)
theorem gtb_tbl : ∀ w ∈ gtb, w ∈ lw_tbl := fun w h => (List.mem_filter.mp h).1
theorem lw_good {Y' : gY} (h : Cond.code Y'.1 Y'.2.1 Y'.2.2.1 Y'.2.2.2.1 ∈ gtb) : GoodIn lw_tbl (gW Y') := by
  have e : ∀ w ∈ gtb, GoodIn lw_tbl [w] := fun w hw v hv => by
    rw [List.mem_singleton.mp hv]
    exact ⟨gtb_tbl w hw, good_of_word (List.mem_filter.mp hw).2⟩
  intro w hw
  rcases List.mem_cons.mp hw with rfl | hw
  · exact e _ h _ (List.mem_singleton.mpr rfl)
  · exact e _ hw _ (List.mem_singleton.mpr rfl)
section ZRULES
variable {l : Launch} {p : Program} {e : Env} {s : State} {m : MethodId} {below : List Frame} {meth : Method} {c : Code} {bs Lx : Nat} {xs : Nat → Int32} {D : va_G} {cA : Nat → ClassId} {k z pc pc1 : Nat} {lv lv' : List (Nat × Value)} {st : List Value} {M : gM} {L : gL} {R R' : gR}

theorem z_iload_n (C : ZC p s m meth c bs Lx xs D cA) {kf : Fin 4} {i : Nat} (j : Nat) {x : Int32} (hd : decode code pc = .ok (.iload_n kf, 1)) (hp : pc + 1 = pc1) (hi : (kf : Nat) = i) (hv : lv[j]? = some (i, .int x)) (kk : Zw l p e s m below meth c bs Lx xs D cA k z pc1 lv (.int x :: st) M L R) : Zw l p e s m below meth c bs Lx xs D cA k z pc lv st M L R := by
  subst hp
  intro H locs ls hP hS hl
  exact lv_iload_n C.1 C.2.1 hd hi (lv_at hl j hv) (kk H locs ls hP hS hl)

theorem z_aload_n (C : ZC p s m meth c bs Lx xs D cA) {kf : Fin 4} {i : Nat} (j : Nat) {x : Nat} (hd : decode code pc = .ok (.aload_n kf, 1)) (hp : pc + 1 = pc1) (hi : (kf : Nat) = i) (hv : lv[j]? = some (i, .ref x)) (kk : Zw l p e s m below meth c bs Lx xs D cA k z pc1 lv (.ref x :: st) M L R) : Zw l p e s m below meth c bs Lx xs D cA k z pc lv st M L R := by
  subst hp
  intro H locs ls hP hS hl
  exact lv_aload_n C.1 C.2.1 hd hi (lv_at hl j hv) (kk H locs ls hP hS hl)

theorem z_iconst (C : ZC p s m meth c bs Lx xs D cA) {q : Int} {v : Int32} (hd : decode code pc = .ok (.iconst q, 1)) (hp : pc + 1 = pc1) (hv : Int32.ofInt q = v) (kk : Zw l p e s m below meth c bs Lx xs D cA k z pc1 lv (.int v :: st) M L R) : Zw l p e s m below meth c bs Lx xs D cA k z pc lv st M L R := by
  subst hp
  intro H locs ls hP hS hl
  exact lv_iconst C.1 C.2.1 hd hv (kk H locs ls hP hS hl)

theorem z_bipush (C : ZC p s m meth c bs Lx xs D cA) {q : Int} {v : Int32} (hd : decode code pc = .ok (.bipush q, 2)) (hp : pc + 2 = pc1) (hv : (Int8.ofInt q).toInt32 = v) (kk : Zw l p e s m below meth c bs Lx xs D cA k z pc1 lv (.int v :: st) M L R) : Zw l p e s m below meth c bs Lx xs D cA k z pc lv st M L R := by
  subst hp
  intro H locs ls hP hS hl
  exact lv_bipush C.1 C.2.1 hd hv (kk H locs ls hP hS hl)

theorem z_iadd (C : ZC p s m meth c bs Lx xs D cA) {x y : Int32} (hd : decode code pc = .ok (.iadd, 1)) (hp : pc + 1 = pc1) (kk : Zw l p e s m below meth c bs Lx xs D cA k z pc1 lv (.int (x + y) :: st) M L R) : Zw l p e s m below meth c bs Lx xs D cA k z pc lv (.int y :: .int x :: st) M L R := by
  subst hp
  intro H locs ls hP hS hl
  exact lv_iadd C.1 C.2.1 hd (kk H locs ls hP hS hl)

theorem z_isub (C : ZC p s m meth c bs Lx xs D cA) {x y : Int32} (hd : decode code pc = .ok (.isub, 1)) (hp : pc + 1 = pc1) (kk : Zw l p e s m below meth c bs Lx xs D cA k z pc1 lv (.int (x - y) :: st) M L R) : Zw l p e s m below meth c bs Lx xs D cA k z pc lv (.int y :: .int x :: st) M L R := by
  subst hp
  intro H locs ls hP hS hl
  exact lv_isub C.1 C.2.1 hd (kk H locs ls hP hS hl)

theorem z_iand (C : ZC p s m meth c bs Lx xs D cA) {x y : Int32} (hd : decode code pc = .ok (.iand, 1)) (hp : pc + 1 = pc1) (kk : Zw l p e s m below meth c bs Lx xs D cA k z pc1 lv (.int (x &&& y) :: st) M L R) : Zw l p e s m below meth c bs Lx xs D cA k z pc lv (.int y :: .int x :: st) M L R := by
  subst hp
  intro H locs ls hP hS hl
  exact lv_iand C.1 C.2.1 hd (kk H locs ls hP hS hl)

theorem z_istore_n (C : ZC p s m meth c bs Lx xs D cA) {kf : Fin 4} {i : Nat} {x : Int32} (hd : decode code pc = .ok (.istore_n kf, 1)) (hp : pc + 1 = pc1) (hi : (kf : Nat) = i) (hn : i < 4) (ks : List Nat) (hs : lv_pick (sto lv i (.int x)) ks = lv') (kk : Zw l p e s m below meth c bs Lx xs D cA k z pc1 lv' st M L R) : Zw l p e s m below meth c bs Lx xs D cA k z pc lv (.int x :: st) M L R := by
  subst hp
  intro H locs ls hP hS hl
  refine lv_istore_n C.1 C.2.1 hd hi hl hn rfl (fun ls2 hl2 => ?_)
  exact kk H locs ls2 hP hS (lv_sub hl2 ks hs)

theorem z_astore_n (C : ZC p s m meth c bs Lx xs D cA) {kf : Fin 4} {i : Nat} {x : Nat} (hd : decode code pc = .ok (.astore_n kf, 1)) (hp : pc + 1 = pc1) (hi : (kf : Nat) = i) (hn : i < 4) (ks : List Nat) (hs : lv_pick (sto lv i (.ref x)) ks = lv') (kk : Zw l p e s m below meth c bs Lx xs D cA k z pc1 lv' st M L R) : Zw l p e s m below meth c bs Lx xs D cA k z pc lv (.ref x :: st) M L R := by
  subst hp
  intro H locs ls hP hS hl
  refine lv_astore_n C.1 C.2.1 hd hi hl hn rfl (fun ls2 hl2 => ?_)
  exact kk H locs ls2 hP hS (lv_sub hl2 ks hs)

theorem z_iinc (C : ZC p s m meth c bs Lx xs D cA) {i : Nat} {q : Int} {x v : Int32} (hd : decode code pc = .ok (.iinc i q, 3)) (hp : pc + 3 = pc1) (j : Nat) (hv : lv[j]? = some (i, .int x)) (hx : x + Int32.ofInt q = v) (hn : i < 4) (ks : List Nat) (hs : lv_pick (sto lv i (.int v)) ks = lv') (kk : Zw l p e s m below meth c bs Lx xs D cA k z pc1 lv' st M L R) : Zw l p e s m below meth c bs Lx xs D cA k z pc lv st M L R := by
  subst hp
  intro H locs ls hP hS hl
  refine lv_iinc C.1 C.2.1 hd hl (k := j) (x := x) hv hx hn rfl (fun ls2 hl2 => ?_)
  exact kk H locs ls2 hP hS (lv_sub hl2 ks hs)

theorem z_sld (C : ZC p s m meth c bs Lx xs D cA) {i : Int32} (hd : decode code pc = .ok (.iaload, 1)) (hp : pc + 1 = pc1) (hin : vp_in i Lx) (kk : Zw l p e s m below meth c bs Lx xs D cA k z pc1 lv (.int (xs i.toNatClampNeg) :: st) M L R) : Zw l p e s m below meth c bs Lx xs D cA k z pc lv (.int i :: .ref bs :: st) M L R := by
  subst hp
  intro H locs ls hP hS hl
  exact va_sld C.1 C.2.1 C.2.2.2.2.2.2.1 C.2.2.2.2.2.2.2.1 (Nat.not_le.mpr C.2.2.2.2.2.2.2.1) hS hin hd (kk H locs ls hP hS hl)

theorem z_slen (C : ZC p s m meth c bs Lx xs D cA)  (hd : decode code pc = .ok (.arraylength, 1)) (hp : pc + 1 = pc1) (kk : Zw l p e s m below meth c bs Lx xs D cA k z pc1 lv (.int (Int32.ofNat Lx) :: st) M L R) : Zw l p e s m below meth c bs Lx xs D cA k z pc lv (.ref bs :: st) M L R := by
  subst hp
  intro H locs ls hP hS hl
  exact va_slen C.1 C.2.1 C.2.2.2.2.2.2.1 C.2.2.2.2.2.2.2.1 (Nat.not_le.mpr C.2.2.2.2.2.2.2.1) hS hd (kk H locs ls hP hS hl)

theorem z_icmp_gt (C : ZC p s m meth c bs Lx xs D cA) {x y : Int32} {off : Int} {tgt : Nat} (hd : decode code pc = .ok (.if_icmp .gt off, 3)) (ht : (pc : Int) + off = (tgt : Int)) (hp : pc + 3 = pc1) (kt : y < x → Zw l p e s m below meth c bs Lx xs D cA k z tgt lv st M L R) (kf : ¬ y < x → Zw l p e s m below meth c bs Lx xs D cA k z pc1 lv st M L R) : Zw l p e s m below meth c bs Lx xs D cA k z pc lv (.int y :: .int x :: st) M L R := by
  subst hp
  intro H locs ls hP hS hl
  exact lv_icmp_gt C.1 C.2.1 hd ht (fun h => kt h H locs ls hP hS hl) (fun h => kf h H locs ls hP hS hl)

theorem z_icmp_eq (C : ZC p s m meth c bs Lx xs D cA) {x y : Int32} {off : Int} {tgt : Nat} (hd : decode code pc = .ok (.if_icmp .eq off, 3)) (ht : (pc : Int) + off = (tgt : Int)) (hp : pc + 3 = pc1) (kt : x = y → Zw l p e s m below meth c bs Lx xs D cA k z tgt lv st M L R) (kf : ¬ x = y → Zw l p e s m below meth c bs Lx xs D cA k z pc1 lv st M L R) : Zw l p e s m below meth c bs Lx xs D cA k z pc lv (.int y :: .int x :: st) M L R := by
  subst hp
  intro H locs ls hP hS hl
  exact lv_icmp_eq C.1 C.2.1 hd ht (fun h => kt h H locs ls hP hS hl) (fun h => kf h H locs ls hP hS hl)

theorem z_icmp_ne (C : ZC p s m meth c bs Lx xs D cA) {x y : Int32} {off : Int} {tgt : Nat} (hd : decode code pc = .ok (.if_icmp .ne off, 3)) (ht : (pc : Int) + off = (tgt : Int)) (hp : pc + 3 = pc1) (kt : ¬ x = y → Zw l p e s m below meth c bs Lx xs D cA k z tgt lv st M L R) (kf : x = y → Zw l p e s m below meth c bs Lx xs D cA k z pc1 lv st M L R) : Zw l p e s m below meth c bs Lx xs D cA k z pc lv (.int y :: .int x :: st) M L R := by
  subst hp
  intro H locs ls hP hS hl
  exact lv_icmp_ne C.1 C.2.1 hd ht (fun h => kt h H locs ls hP hS hl) (fun h => kf h H locs ls hP hS hl)

theorem z_goto (C : ZC p s m meth c bs Lx xs D cA) {off : Int} {tgt : Nat} (hd : decode code pc = .ok (.goto off, 3)) (ht : (pc : Int) + off = (tgt : Int)) (kk : Zw l p e s m below meth c bs Lx xs D cA k z tgt lv st M L R) : Zw l p e s m below meth c bs Lx xs D cA k z pc lv st M L R := by
  intro H locs ls hP hS hl
  exact lv_goto C.1 C.2.1 hd ht (kk H locs ls hP hS hl)

theorem z_pop (C : ZC p s m meth c bs Lx xs D cA) {v : Value} (hd : decode code pc = .ok (.pop, 1)) (hp : pc + 1 = pc1) (hc : v.category = 1) (kk : Zw l p e s m below meth c bs Lx xs D cA k z pc1 lv st M L R) : Zw l p e s m below meth c bs Lx xs D cA k z pc lv (v :: st) M L R := by
  subst hp
  intro H locs ls hP hS hl
  exact lv_pop C.1 C.2.1 hd hc (kk H locs ls hP hS hl)

theorem z_dup (C : ZC p s m meth c bs Lx xs D cA) {v : Value} (hd : decode code pc = .ok (.dup, 1)) (hp : pc + 1 = pc1) (hc : v.category = 1) (kk : Zw l p e s m below meth c bs Lx xs D cA k z pc1 lv (v :: v :: st) M L R) : Zw l p e s m below meth c bs Lx xs D cA k z pc lv (v :: st) M L R := by
  subst hp
  intro H locs ls hP hS hl
  exact lv_dup C.1 C.2.1 hd hc (kk H locs ls hP hS hl)

theorem z_tabK (C : ZC p s m meth c bs Lx xs D cA) {dflt lo hi : Int} {offs : Array Int} {len : Nat} {x v : Int32} {off : Int} {tgt : Nat} (hd : decode code pc = .ok (.tableswitch dflt lo hi offs, len)) (hx : x = v) (h1 : ¬ v.toInt < lo) (h2 : ¬ hi < v.toInt) (ho : offs[(v.toInt - lo).toNat]? = some off) (ht : (pc : Int) + off = (tgt : Int)) (kk : Zw l p e s m below meth c bs Lx xs D cA k z tgt lv st M L R) : Zw l p e s m below meth c bs Lx xs D cA k z pc lv (.int x :: st) M L R := by
  subst hx
  intro H locs ls hP hS hl
  exact lv_tableIn C.1 C.2.1 hd h1 h2 ho ht (kk H locs ls hP hS hl)

theorem z_tabOut (C : ZC p s m meth c bs Lx xs D cA) {dflt lo hi : Int} {offs : Array Int} {len : Nat} {x : Int32} {tgt : Nat} (hd : decode code pc = .ok (.tableswitch dflt lo hi offs, len)) (h : x.toInt < lo ∨ hi < x.toInt) (ht : (pc : Int) + dflt = (tgt : Int)) (kk : Zw l p e s m below meth c bs Lx xs D cA k z tgt lv st M L R) : Zw l p e s m below meth c bs Lx xs D cA k z pc lv (.int x :: st) M L R := by
  intro H locs ls hP hS hl
  exact lv_tableOut C.1 C.2.1 hd h ht (kk H locs ls hP hS hl)

theorem z_topR (C : ZC p s m meth c bs Lx xs D cA)  (h : sameR k R R') (hk : k ≤ 447) (kk : Zw l p e s m below meth c bs Lx xs D cA k z pc lv st M L R') : Zw l p e s m below meth c bs Lx xs D cA k z pc lv st M L R := by
  intro H locs ls hP hS hl
  rw [h.wd hk] at hP
  exact kk H locs ls hP hS hl

theorem z_new (C : ZC p s m meth c bs Lx xs D cA) {ci idx N : Nat} {Cn : String} {T : u_T} {ty : Nat → FieldType} (hd : decode code pc = .ok (.new idx, 3)) (hp : pc + 3 = pc1) (hc : cls[ci]? = some (Cn, T, N)) (hin : ∀ w ∈ u_ws Cn T N, w ∈ lw_tbl) (hty : ∀ k, k < N → parseFieldDescriptor (T k).2.2.1 = some (ty k)) (hdf : ∀ j, j < N → defaultValue (ty j) = vp_V ((fks ci).map (fun q => match q.1 with | 0 => .int 0 | 2 => .int 0 | _ => .null)) j) (hw1 : Cond.classLink R_law idx Cn ∈ gtb) (hw2 : Cond.instantiable Cn N ∈ gtb) (hw3 : Cond.initialized Cn ∈ gtb) (hs : SH k = (0, ci)) (hz1 : ∀ i, M k i = 0) (hz2 : ∀ i, R k i = none) (h1 : k + 1 ≤ 600000) (h2 : z + N ≤ 7302249) (kk : Zw l p e s m below meth c bs Lx xs D cA (k + 1) (z + N) pc1 lv (.ref (s.heap.size + k) :: st) M L R) : Zw l p e s m below meth c bs Lx xs D cA k z pc lv st M L R := by
  subst hp
  intro H locs ls hP hS hl
  obtain ⟨hx, hb, hr, hml, hown, hts, hX, hbl, hlk, hK, hO⟩ := C
  refine va_new (D := D) hx hb hts hin ty hty hown (hts _ (gtb_tbl _ hw1)) (hts _ (gtb_tbl _ hw2)) (hts _ (gtb_tbl _ hw3)) hK.1 hP wd_D hS (fun q hq => hq) hc hdf h1 h2 hd (fun q H1 hP1 hD1 hS1 => ?_)
  intro T0 hT0 X0
  have hq : q = s.heap.size + k := wd_q hP1 hD1 (by rw [← hT0]; exact X0.heapSize) (by omega)
  subst hq
  have e : (fks ci).map (fun q => match q.1 with | 0 => Value.int 0 | 2 => Value.int 0 | _ => Value.null) = (fks ci).map (fvl s.heap.size M R k) := by
    apply List.map_congr_left
    intro q _
    unfold fvl
    rw [hz1, hz2]
    obtain ⟨kd, j⟩ := q
    rcases kd with _ | _ | _ | kd <;> rfl
  rw [e, ← ent_obj (L := L) (cA := cA) hs, ← wd_snoc] at hP1
  exact kk H1 locs ls hP1 hS1 hl T0 hT0 X0

theorem z_callV (C : ZC p s m meth c bs Lx xs D cA) {Y' : gY} {E' : Nat × Nat × Nat} {idx np a ci N : Nat} {T : u_T} {As rest : List Value} (hd : decode code pc = .ok (.invokevirtual idx, 3)) (hp : pc + 3 = pc1) (hm : mOk R_law idx np Y') (hins : Cond.instanceMethod Y'.1 ∈ gtb) (hsel : Cond.selects Y'.1.cls Y'.1 Y'.1 ∈ gtb) (hs : SH a = (0, ci)) (ha : a < k) (hc : cls[ci]? = some (Y'.1.cls, T, N)) (hR : Y'.2.2.2.2 + 1 ≤ 11 ∧ 8 + (Y'.2.2.1 + 11) + 40 * Y'.2.2.2.2 ≤ 446) (hn : As.length = np) (hst : st = (As.reverse ++ .ref a :: rest).map (cv s.heap.size)) (hcat : (rest.map fun v => v.category).sum ≤ 8) (hf : k + E'.1 ≤ 600000 ∧ z + E'.2.1 ≤ 7302249) (hE : E'.2.2 = k + E'.1) (hT : Tm l Y' E' k (.ref a :: As) M L R (fun r M' L' R' => Zw l p e s m below meth c bs Lx xs D cA E'.2.2 (z + E'.2.1) pc1 lv ((psh r rest).map (cv s.heap.size)) M' L' R')) : Zw l p e s m below meth c bs Lx xs D cA k z pc lv st M L R := by
  subst hp
  intro H locs ls hP hS hl
  obtain ⟨hx, hb, hr, hml, hown, hts, hX, hbl, hlk, hK, hO⟩ := id C
  subst hst
  refine w_callV hx hb hml hown hts gtb_tbl hK (lw_good hm.2.1) (Nat.le_refl _) hO hm hins hsel hs ha hc hR hn rfl hcat hd hf hl.1 rfl hP hS hT (fun r M' L' R' H1 locs1 g1 g2 g3 => ?_)
  rw [← hE]
  exact g1 H1 locs1 ls g2 g3 hl

theorem z_callI (C : ZC p s m meth c bs Lx xs D cA) {Y' : gY} {E' : Nat × Nat × Nat} {idx np a : Nat} {As rest : List Value} (hd : decode code pc = .ok (.invokespecial idx, 3)) (hp : pc + 3 = pc1) (hm : mOk R_law idx np Y') (hins : Cond.instanceMethod Y'.1 ∈ gtb) (hnm : Y'.1.name = "<init>") (hrt : Y'.2.2.2.1 = none) (hR : Y'.2.2.2.2 + 1 ≤ 11 ∧ 8 + (Y'.2.2.1 + 11) + 40 * Y'.2.2.2.2 ≤ 446) (hn : As.length = np) (hst : st = (As.reverse ++ .ref a :: rest).map (cv s.heap.size)) (hcat : (rest.map fun v => v.category).sum ≤ 8) (hf : k + E'.1 ≤ 600000 ∧ z + E'.2.1 ≤ 7302249) (hE : E'.2.2 = k + E'.1) (hT : Tm l Y' E' k (.ref a :: As) M L R (fun r M' L' R' => Zw l p e s m below meth c bs Lx xs D cA E'.2.2 (z + E'.2.1) pc1 lv ((psh r rest).map (cv s.heap.size)) M' L' R')) : Zw l p e s m below meth c bs Lx xs D cA k z pc lv st M L R := by
  subst hp
  intro H locs ls hP hS hl
  obtain ⟨hx, hb, hr, hml, hown, hts, hX, hbl, hlk, hK, hO⟩ := id C
  subst hst
  refine w_callI hx hb hml hown hts gtb_tbl hK (lw_good hm.2.1) (Nat.le_refl _) hO hm hins hnm hrt hR hn rfl hcat hd hf hl.1 rfl hP hS hT (fun r M' L' R' H1 locs1 g1 g2 g3 => ?_)
  rw [← hE]
  exact g1 H1 locs1 ls g2 g3 hl

theorem z_end (C : ZC p s m meth c bs Lx xs D cA)  (hd : decode code pc = .ok (.ireturn, 1)) (h1 : k ≤ 600000) (h2 : z ≤ 7302249) : Zw l p e s m below meth c bs Lx xs D cA k z pc lv [.int 1] M L R := by
  intro H locs ls hP hS hl
  exact va_forget (fun q hq => hS.2.2 q hq) (W.widen h1 h2 (lw_ret C.1 C.2.1 C.2.2.1 C.2.2.2.2.2.2.2.2.1 hd))

end ZRULES
