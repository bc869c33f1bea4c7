/-! ===== constructors: worlds that grow ===== -/
def Xt (U : State) : Prop := va_AO RX4 U ∧ va_Nw (.methodLinkNest RX5 28 yX2_init "SharedStates") U
theorem Xt.warm {s U : State} (hW : s.WarmedH U.vm) (h : Xt s) : Xt U := ⟨va_AO.moved hW.alike h.1, va_Nw.warmM hW h.2⟩
def frC (h sz : Nat) : Nat → Prop := fun q => q = h ∨ sz ≤ q
def Sn (G : Gl) (h : Nat) (e0 : va_E) (sz : Nat) (U : State) : Prop := U.heap.size = sz ∧ va_P G.1 vwCl [(h, e0)] U.heap ∧ Kx G U ∧ Xt U
def Qn (G : Gl) (h sz : Nat) (sh : va_W → Prop) : Array Value → State → Outcome → State → Prop := fun _ st o t => (∃ w1 : va_W, o = .returned none ∧ sh w1 ∧ va_P G.1 vwCl w1 t.heap ∧ va_D (frC h sz) w1) ∧ va_F (frC h sz) st t
def Kn (X : Cx) (G : Gl) (A : Nat → Prop) (ws : va_W) (L : List (Option Value)) (mc ms pc : Nat) (st : List Value) : Prop :=
  match X with
  | (p, l, e, R, s, m, args, below, meth, c, Q, _) => ∀ (H : Heap) (locs : List Loc) (ls : Array Slot), va_P G.1 vwCl ws H → va_D A ws → va_S A s.heap H locs → Lh ls L → W p l e R s m args below meth c H locs mc ms Q (F0 m pc ls st)
def Ec (X : Cx) (l0 : Launch) (G : Gl) (R0 : Room) (cc : ByteArray) (nL : Nat) (Ts : List Cond) (own : String) (A : Nat → Prop) : Prop :=
  match X with
  | (p, l, _, R, s, m, args, _, _, c, _, _) => CallFix p m c cc nL s args Ts own ∧ Kx G s ∧ Xt s ∧ R = R0 ∧ l = l0 ∧ ∀ z : Nat, s.heap.size ≤ z → A z
def En (X : Cx) (G : Gl) (h sz mct mst : Nat) (sh : va_W → Prop) : Prop :=
  match X with
  | (_, _, _, _, s, _, args, below, meth, _, Q, _) => meth.name = "<init>" ∧ meth.sig.returnType = none ∧ meth.locks = false ∧ Q = MQ below (Qn G h sz sh) args s mct mst (frC h sz)
theorem n_met {l : Launch} {G : Gl} {h sz mct mst : Nat} {e0 : va_E} {sh : va_W → Prop} {y : MethodName} {ws ws' : List Cond} {rm : Room} {L : List (Option Value)} {cc : ByteArray} {nL : Nat} {own : String}
    (hy : plainName y.cls = true) (hin : y.name = "<init>") (hw : ws = Cond.code y cc nL none :: ws') (ho : y.cls = own) (hn : 1 ≤ nL) (hL : some (Value.ref h) :: List.replicate (nL - 1) none = L)
    (body : ∀ X : Cx, Ec X l G (headSpec ws rm).room cc nL ws own (frC h sz) → En X G h sz mct mst sh → Kn X G (frC h sz) [(h, e0)] L 0 0 0 []) : Met l y ws rm (va_Pc [.ref h] (Sn G h e0 sz)) (Qn G h sz sh) mct mst (frC h sz) := by
  refine Met.ofW (cc := cc) (maxL := nL) (ret := none) hy hw ?_
  intro p e s m args below meth c s₁ B hml hv
  obtain ⟨rfl, hsz, hP, hK, hX⟩ := hv
  have hown : s.vm.findClass own = some m.cls := ho ▸ findClass_of_methodNamed B.named
  have hl := lv_entry [Value.ref h] (n := nL) (by rw [← layL_len]; exact hn)
  rw [lg_entry_eq]
  have hnm : meth.name = "<init>" := (name_of_methodNamed B.named B.method).1.trans hin
  have hb := body (p, l, e, (headSpec ws rm).room, s, m, [Value.ref h].toArray, below, meth, c, MQ below (Qn G h sz sh) [Value.ref h].toArray s mct mst (frC h sz), frC h sz) ⟨⟨B.exec, B.bytes, hml, hown, atoms_spec (ws := ws) B.pre⟩, hK, hX, rfl, rfl, fun z hz => Or.inr (by rw [← hsz]; exact hz)⟩ ⟨hnm, B.returns, B.notSynchronized, rfl⟩
  refine hb s.heap [] _ hP ⟨fun i j p q hp hq _ => ?_, fun k q hk => ?_⟩ va_S.rf (Lh_of_has hl ?_ ?_)
  · have h1 : i < 1 := (List.getElem?_eq_some_iff.mp hp).1
    have h2 : j < 1 := (List.getElem?_eq_some_iff.mp hq).1
    omega
  · have h1 : k < 1 := (List.getElem?_eq_some_iff.mp hk).1
    rw [show k = 0 by omega] at hk
    cases hk
    exact Or.inl rfl
  · rw [← hL, List.length_cons, List.length_replicate]; omega
  · intro i v hi
    rw [← hL] at hi
    cases i with
    | zero =>
      cases hi
      exact List.mem_cons_self
    | succ i =>
      rw [List.getElem?_cons_succ, List.getElem?_replicate] at hi
      split at hi <;> cases hi
section NR
variable {X : Cx} {l0 : Launch} {G : Gl} {R0 : Room} {cc : ByteArray} {nL : Nat} {Ts : List Cond} {own : String} {A : Nat → Prop} {ws : va_W} {L : List (Option Value)} {mc ms pc : Nat} {st : List Value}
theorem n_iconst (E : Ec X l0 G R0 cc nL Ts own A) {n : Int} (hdg : decode cc pc = .ok (.iconst n, 1)) (kk : Kn X G A ws L mc ms (pc + 1) (.int (iI n) :: st)) : Kn X G A ws L mc ms pc st := by
  obtain ⟨p, l, e, R, s, m, args, below, meth, c, Q, AA⟩ := X
  intro H locs ls hP hD hS hL
  exact lv_iconst E.1.1 E.1.2.1 hdg rfl (kk H locs ls hP hD hS hL)
theorem n_bipush (E : Ec X l0 G R0 cc nL Ts own A) {n : Int} (hdg : decode cc pc = .ok (.bipush n, 2)) (hv : (Int8.ofInt n).toInt32 = iI n) (kk : Kn X G A ws L mc ms (pc + 2) (.int (iI n) :: st)) : Kn X G A ws L mc ms pc st := by
  obtain ⟨p, l, e, R, s, m, args, below, meth, c, Q, AA⟩ := X
  intro H locs ls hP hD hS hL
  exact lv_bipush E.1.1 E.1.2.1 hdg hv (kk H locs ls hP hD hS hL)
theorem n_sipush (E : Ec X l0 G R0 cc nL Ts own A) {n : Int} (hdg : decode cc pc = .ok (.sipush n, 3)) (hv : (Int16.ofInt n).toInt32 = iI n) (kk : Kn X G A ws L mc ms (pc + 3) (.int (iI n) :: st)) : Kn X G A ws L mc ms pc st := by
  obtain ⟨p, l, e, R, s, m, args, below, meth, c, Q, AA⟩ := X
  intro H locs ls hP hD hS hL
  exact lv_sipush E.1.1 E.1.2.1 hdg hv (kk H locs ls hP hD hS hL)
theorem n_iload_n (E : Ec X l0 G R0 cc nL Ts own A) {k : Fin 4} {x : Int32} (hdg : decode cc pc = .ok (.iload_n k, 1)) (i : Nat) (hi : (k : Nat) = i) (hl : L[i]? = some (some (.int x))) (kk : Kn X G A ws L mc ms (pc + 1) (.int x :: st)) : Kn X G A ws L mc ms pc st := by
  obtain ⟨p, l, e, R, s, m, args, below, meth, c, Q, AA⟩ := X
  intro H locs ls hP hD hS hL
  exact lv_iload_n E.1.1 E.1.2.1 hdg hi (hL.2.2 i _ hl) (kk H locs ls hP hD hS hL)
theorem n_aload_n (E : Ec X l0 G R0 cc nL Ts own A) {k : Fin 4} {x : Nat} (hdg : decode cc pc = .ok (.aload_n k, 1)) (i : Nat) (hi : (k : Nat) = i) (hl : L[i]? = some (some (.ref x))) (kk : Kn X G A ws L mc ms (pc + 1) (.ref x :: st)) : Kn X G A ws L mc ms pc st := by
  obtain ⟨p, l, e, R, s, m, args, below, meth, c, Q, AA⟩ := X
  intro H locs ls hP hD hS hL
  exact lv_aload_n E.1.1 E.1.2.1 hdg hi (hL.2.2 i _ hl) (kk H locs ls hP hD hS hL)
theorem n_istore_n (E : Ec X l0 G R0 cc nL Ts own A) {k : Fin 4} {x : Int32} (hdg : decode cc pc = .ok (.istore_n k, 1)) (i : Nat) (hi : (k : Nat) = i) {L' : List (Option Value)} (hn : i < L.length) (hl : L.set i (some (.int x)) = L') (kk : Kn X G A ws L' mc ms (pc + 1) st) (hk : okS L i = true := by rfl) : Kn X G A ws L mc ms pc (.int x :: st) := by
  obtain ⟨p, l, e, R, s, m, args, below, meth, c, Q, AA⟩ := X
  intro H locs ls hP hD hS hL
  subst hl
  exact lv_istore_n E.1.1 E.1.2.1 hdg hi hL.enum hn rfl (fun ls' hl' => kk H locs ls' hP hD hS (hL.store hk hl'))
theorem n_iinc (E : Ec X l0 G R0 cc nL Ts own A) {i : Nat} {n : Int} (x y : Int) (hdg : decode cc pc = .ok (.iinc i n, 3)) {L' : List (Option Value)} (hn : i < L.length) (hx : L[i]? = some (some (.int (iI x)))) (hy : x + n = y) (hl : L.set i (some (.int (iI y))) = L') (kk : Kn X G A ws L' mc ms (pc + 3) st) (hks : okS L i = true := by rfl) : Kn X G A ws L mc ms pc st := by
  obtain ⟨p, l, e, R, s, m, args, below, meth, c, Q, AA⟩ := X
  intro H locs ls hP hD hS hL
  subst hl hy
  obtain ⟨k, hk⟩ := List.getElem?_of_mem (l := L.zipIdx.filterMap (fun q => q.1.map (fun v => (q.2, v)))) (a := (i, .int (iI x))) (List.mem_filterMap.mpr ⟨(some (.int (iI x)), i), List.mem_zipIdx_iff_getElem?.mpr hx, rfl⟩)
  exact lv_iinc (v := iI (x + n)) E.1.1 E.1.2.1 hdg hL.enum hk (iI_add x n) hn rfl (fun ls' hl' => kk H locs ls' hP hD hS (hL.store hks hl'))
theorem n_goto (E : Ec X l0 G R0 cc nL Ts own A) {off : Int} (tgt : Nat) (hdg : decode cc pc = .ok (.goto off, 3)) (ht : (pc : Int) + off = (tgt : Int)) (kk : Kn X G A ws L mc ms tgt st) : Kn X G A ws L mc ms pc st := by
  obtain ⟨p, l, e, R, s, m, args, below, meth, c, Q, AA⟩ := X
  intro H locs ls hP hD hS hL
  exact lv_goto E.1.1 E.1.2.1 hdg ht (kk H locs ls hP hD hS hL)
theorem n_geT (E : Ec X l0 G R0 cc nL Ts own A) {x y : Int} {off : Int} (tgt : Nat) (hdg : decode cc pc = .ok (.if_icmp .ge off, 3)) (ht : (pc : Int) + off = (tgt : Int)) (hx : inR x) (hy : inR y) (hc : y ≤ x) (kk : Kn X G A ws L mc ms tgt st) : Kn X G A ws L mc ms pc (.int (iI y) :: .int (iI x) :: st) := by
  obtain ⟨p, l, e, R, s, m, args, below, meth, c, Q, AA⟩ := X
  intro H locs ls hP hD hS hL
  refine lv_icmp_ge E.1.1 E.1.2.1 hdg ht (fun _ => kk H locs ls hP hD hS hL) (fun q => absurd ((iI_le hy hx).mpr hc) q)
theorem n_geF (E : Ec X l0 G R0 cc nL Ts own A) {x y : Int} {off : Int} (tgt : Nat) (hdg : decode cc pc = .ok (.if_icmp .ge off, 3)) (ht : (pc : Int) + off = (tgt : Int)) (hx : inR x) (hy : inR y) (hc : x < y) (kk : Kn X G A ws L mc ms (pc + 3) st) : Kn X G A ws L mc ms pc (.int (iI y) :: .int (iI x) :: st) := by
  obtain ⟨p, l, e, R, s, m, args, below, meth, c, Q, AA⟩ := X
  intro H locs ls hP hD hS hL
  refine lv_icmp_ge E.1.1 E.1.2.1 hdg ht (fun q => absurd ((iI_le hy hx).mp q) (by omega)) (fun _ => kk H locs ls hP hD hS hL)
theorem n_iadd (E : Ec X l0 G R0 cc nL Ts own A) {x y : Int} (z : Int) (hz : x + y = z) (hdg : decode cc pc = .ok (.iadd, 1)) (kk : Kn X G A ws L mc ms (pc + 1) (.int (iI z) :: st)) : Kn X G A ws L mc ms pc (.int (iI y) :: .int (iI x) :: st) := by
  obtain ⟨p, l, e, R, s, m, args, below, meth, c, Q, AA⟩ := X
  intro H locs ls hP hD hS hL
  subst hz
  exact lv_iadd E.1.1 E.1.2.1 hdg (by rw [iI_add]; exact kk H locs ls hP hD hS hL)
theorem n_dup (E : Ec X l0 G R0 cc nL Ts own A) {v : Value} (hdg : decode cc pc = .ok (.dup, 1)) (hv : v.category = 1) (kk : Kn X G A ws L mc ms (pc + 1) (v :: v :: st)) : Kn X G A ws L mc ms pc (v :: st) := by
  obtain ⟨p, l, e, R, s, m, args, below, meth, c, Q, AA⟩ := X
  intro H locs ls hP hD hS hL
  exact lv_dup E.1.1 E.1.2.1 hdg hv (kk H locs ls hP hD hS hL)
theorem n_obj (E : Ec X l0 G R0 cc nL Ts own A) {index : Nat} {a : Nat} (f0 : Cond.methodLink own index objectInit ∈ Ts) (f1 : Cond.instanceMethod objectInit ∈ Ts) (f2 : Cond.code objectInit ⟨#[0xb1]⟩ 1 none ∈ Ts) (hnl : L.length = nL) (hst : (st.map fun v => v.category).sum ≤ 8) (hR : 1 ≤ R0.frames ∧ 20 ≤ R0.locals) (hdg : decode cc pc = .ok (.invokespecial index, 3)) (kk : Kn X G A ws L mc ms (pc + 3) st) : Kn X G A ws L mc ms pc (.ref a :: st) := by
  obtain ⟨p, l, e, R, s, m, args, below, meth, c, Q, AA⟩ := X
  intro H locs ls hP hD hS hL
  obtain ⟨E1, hK, hX, rfl, rfl, hA⟩ := E
  refine W.objInit E1.1 E1.2.1 E1.2.2.2.1 (E1.2.2.2.2 _ f0) (E1.2.2.2.2 _ f1) (E1.2.2.2.2 _ f2) (g := F0 m pc ls (.ref a :: st)) rfl ((hL.1.trans hnl).trans E1.2.2.1.symm) rfl hdg hR.1 (Nat.le_trans (Nat.add_le_add_right (lv_room hst) 12) hR.2) ?_
  exact W.eq (g2 := F0 m (pc + 3) ls st) rfl (kk H locs ls hP hD hS hL)
theorem n_new (E : Ec X l0 G R0 cc nL Ts own A) {C : String} {T : u_T} {N ci index : Nat} (hin : ∀ w ∈ u_ws C T N, w ∈ Ts) (ty : Nat → FieldType) (hty : ∀ k, k < N → parseFieldDescriptor (T k).2.2.1 = some (ty k)) (f0 : Cond.classLink own index C ∈ Ts) (f1 : Cond.instantiable C N ∈ Ts) (f2 : Cond.initialized C ∈ Ts) (hc : vwCl[ci]? = some (C, T, N)) {fs : List Value} (hfs : ∀ j, j < N → defaultValue (ty j) = vp_V fs j) (mc' ms' : Nat) (e1 : mc + 1 = mc') (e2 : ms + N = ms') (hcells : mc' ≤ R0.cells) (hslots : ms' ≤ R0.slots) (hdg : decode cc pc = .ok (.new index, 3))
    (kk : ∀ q : Nat, Kn X G A (ws ++ [(q, .inr (ci, fs))]) L mc' ms' (pc + 3) (.ref q :: st)) : Kn X G A ws L mc ms pc st := by
  obtain ⟨p, l, e, R, s, m, args, below, meth, c, Q, AA⟩ := X
  intro H locs ls hP hD hS hL
  obtain ⟨E1, hK, hX, rfl, rfl, hA⟩ := E
  subst e1 e2
  exact va_new E1.1 E1.2.1 E1.2.2.2.2 hin ty hty E1.2.2.2.1 (E1.2.2.2.2 _ f0) (E1.2.2.2.2 _ f1) (E1.2.2.2.2 _ f2) hK.1 hP hD hS hA hc hfs hcells hslots hdg (fun q H1 hP1 hD1 hS1 => kk q H1 locs ls hP1 hD1 hS1 hL)
theorem n_newa (E : Ec X l0 G R0 cc nL Ts own A) (f0 : Cond.arrayClass .int ∈ Ts) {n : Int} (N : Nat) (hN : n = (N : Int)) (hb : N ≤ 100000) (mc' ms' : Nat) (e1 : mc + 1 = mc') (e2 : ms + N = ms') (hcells : mc' ≤ R0.cells) (hslots : ms' ≤ R0.slots) (hdg : decode cc pc = .ok (.newarray .int, 2))
    (kk : ∀ q : Nat, Kn X G A (ws ++ [(q, .inl (gI G, N, .inl (fun _ => 0)))]) L mc' ms' (pc + 2) (.ref q :: st)) : Kn X G A ws L mc ms pc (.int (iI n) :: st) := by
  obtain ⟨p, l, e, R, s, m, args, below, meth, c, Q, AA⟩ := X
  intro H locs ls hP hD hS hL
  obtain ⟨E1, hK, hX, rfl, rfl, hA⟩ := E
  subst e1 e2 hN
  refine va_newa (atype := .int) (ty := .int) (a0 := (N, .inl (fun _ => 0))) E1.1 E1.2.1 (E1.2.2.2.2 _ f0) rfl hK.1 hP hD hS hA (fun cA => by rw [vp_cell_i]; rfl) (by rw [iI_0, iI_lt (by omega) (by omega)]; omega) (by rw [iI_clamp (by omega) (by omega)]; omega) (by show N * 4 ≤ _; omega) hcells hslots hdg (fun q cA H1 hK1 hP1 hD1 hS1 => ?_)
  have z1 : va_RA s cA .int := (hK1.2 3 (cA, .int) rfl).2
  have z2 : va_RA s (gI G) .int := (hK.1.2 0 (gI G, .int) rfl).2
  have e : cA = gI G := Option.some.inj (z1.symm.trans z2)
  subst e
  exact kk q H1 locs ls hP1 hD1 hS1 hL
theorem n_newaL (E : Ec X l0 G R0 cc nL Ts own A) (f0 : Cond.arrayClass .long ∈ Ts) {n : Int} (N : Nat) (hN : n = (N : Int)) (hb : N ≤ 100000) (mc' ms' : Nat) (e1 : mc + 1 = mc') (e2 : ms + N = ms') (hcells : mc' ≤ R0.cells) (hslots : ms' ≤ R0.slots) (hdg : decode cc pc = .ok (.newarray .long, 2))
    (kk : ∀ q : Nat, Kn X G A (ws ++ [(q, .inl (gL G, N, .inr (.inl (fun _ => 0))))]) L mc' ms' (pc + 2) (.ref q :: st)) : Kn X G A ws L mc ms pc (.int (iI n) :: st) := by
  obtain ⟨p, l, e, R, s, m, args, below, meth, c, Q, AA⟩ := X
  intro H locs ls hP hD hS hL
  obtain ⟨E1, hK, hX, rfl, rfl, hA⟩ := E
  subst e1 e2 hN
  refine va_newa (atype := .long) (ty := .long) (a0 := (N, .inr (.inl (fun _ => 0)))) E1.1 E1.2.1 (E1.2.2.2.2 _ f0) rfl hK.1 hP hD hS hA (fun cA => by rw [vp_cell_l]; rfl) (by rw [iI_0, iI_lt (by omega) (by omega)]; omega) (by rw [iI_clamp (by omega) (by omega)]; omega) (by show N * 8 ≤ _; omega) hcells hslots hdg (fun q cA H1 hK1 hP1 hD1 hS1 => ?_)
  have z1 : va_RA s cA .long := (hK1.2 3 (cA, .long) rfl).2
  have z2 : va_RA s (gL G) .long := (hK.1.2 2 (gL G, .long) rfl).2
  have e : cA = gL G := Option.some.inj (z1.symm.trans z2)
  subst e
  exact kk q H1 locs ls hP1 hD1 hS1 hL
theorem n_newq (E : Ec X l0 G R0 cc nL Ts own A) {index : Nat} (f0 : Cond.classLink own index RX4 ∈ Ts) {n : Int} (N : Nat) (hN : n = (N : Int)) (hb : N ≤ 100000) (mc' ms' : Nat) (e1 : mc + 1 = mc') (e2 : ms + N = ms') (hcells : mc' ≤ R0.cells) (hslots : ms' ≤ R0.slots) (hdg : decode cc pc = .ok (.anewarray index, 3))
    (kk : ∀ q : Nat, Kn X G A (ws ++ [(q, .inl (gW G, N, .inr (.inr (.inr (.inr (fun _ => none))))))]) L mc' ms' (pc + 3) (.ref q :: st)) : Kn X G A ws L mc ms pc (.int (iI n) :: st) := by
  obtain ⟨p, l, e, R, s, m, args, below, meth, c, Q, AA⟩ := X
  intro H locs ls hP hD hS hL
  obtain ⟨E1, hK, hX, rfl, rfl, hA⟩ := E
  subst e1 e2 hN
  refine va_newq (C := RX4) E1.1 E1.2.1 E1.2.2.2.1 (E1.2.2.2.2 _ f0) hX.1 hK.1 hP hD hS hA (N' := N) (by rw [iI_0, iI_lt (by omega) (by omega)]; omega) (by rw [iI_clamp (by omega) (by omega)]; omega) (by omega) hcells hslots hdg (fun q cA H1 hK1 hP1 hD1 hS1 => ?_)
  obtain ⟨k1, c1, -, -, -, z1⟩ : va_RA s cA (.object RX4) := (hK1.2 3 (cA, .object RX4) rfl).2
  obtain ⟨k2, c2, -, -, -, z2⟩ : va_RA s (gW G) (.object RX4) := (hK.1.2 1 (gW G, .object RX4) rfl).2
  have e : cA = gW G := Option.some.inj (z1.symm.trans z2)
  subst e
  exact kk q H1 locs ls hP1 hD1 hS1 hL
theorem n_putF (E : Ec X l0 G R0 cc nL Ts own A) {h sz mct mst : Nat} {sh : va_W → Prop} (E2 : En X G h sz mct mst sh) {a : Nat} {ref C : String} {T : u_T} {N ci index : Nat} (hin : ∀ w ∈ u_ws C T N, w ∈ Ts) (ty0 : Nat → FieldType) (hty : ∀ k, k < N → parseFieldDescriptor (T k).2.2.1 = some (ty0 k)) (hnm : ∀ a, a < N → ∀ b, b < N → a ≠ b → (T a).2.1 ≠ (T b).2.1) (q0 : Nat) {fs : List Value} (he : ws[q0]? = some (a, .inr (ci, fs))) (hc : vwCl[ci]? = some (C, T, N)) (k : Nat) (hk : k < N) (href : ref = (T k).1) (hlink : Cond.fieldLink own index ref (T k).2.1 (T k).2.2.1 ∈ Ts) (hfin : (T k).2.2.2 = true) (hdecl : (T k).1 = own) {ty : FieldType} {v : Value} (hd : parseFieldDescriptor (T k).2.2.1 = some ty) (hn : narrow ty v = v) (hfit : fits ty v = true) (hl : k < fs.length) {ws' : va_W} (hw : ws.set q0 (a, .inr (ci, fs.set k v)) = ws') (hdg : decode cc pc = .ok (.putfield index, 3))
    (kk : Kn X G A ws' L mc ms (pc + 3) st) : Kn X G A ws L mc ms pc (v :: .ref a :: st) := by
  obtain ⟨p, l, e, R, s, m, args, below, meth, c, Q, AA⟩ := X
  intro H locs ls hP hD hS hL
  obtain ⟨E1, hK, hX, rfl, rfl, hA⟩ := E
  subst href hw
  exact va_putF E1.1 E1.2.1 E1.2.2.2.2 hin ty0 hty hnm E1.2.2.2.1 hK.1 hP hD hS q0 he hc k hk (E1.2.2.2.2 _ hlink) (fun _ h => h) hfin E2.1 hdecl hd hn hfit hl hdg (fun H1 locs1 hP1 hD1 hS1 => kk H1 locs1 ls hP1 hD1 hS1 hL)
theorem n_put (E : Ec X l0 G R0 cc nL Ts own A) {a : Nat} {ref C : String} {T : u_T} {N ci index : Nat} (hin : ∀ w ∈ u_ws C T N, w ∈ Ts) (ty0 : Nat → FieldType) (hty : ∀ k, k < N → parseFieldDescriptor (T k).2.2.1 = some (ty0 k)) (hnm : ∀ a, a < N → ∀ b, b < N → a ≠ b → (T a).2.1 ≠ (T b).2.1) (q0 : Nat) {fs : List Value} (he : ws[q0]? = some (a, .inr (ci, fs))) (hc : vwCl[ci]? = some (C, T, N)) (k : Nat) (hk : k < N) (href : ref = (T k).1) (hlink : Cond.fieldLink own index ref (T k).2.1 (T k).2.2.1 ∈ Ts) (hfin : (T k).2.2.2 = false) {ty : FieldType} {v : Value} (hd : parseFieldDescriptor (T k).2.2.1 = some ty) (hn : narrow ty v = v) (hfit : fits ty v = true) (hl : k < fs.length) {ws' : va_W} (hw : ws.set q0 (a, .inr (ci, fs.set k v)) = ws') (hdg : decode cc pc = .ok (.putfield index, 3))
    (kk : Kn X G A ws' L mc ms (pc + 3) st) : Kn X G A ws L mc ms pc (v :: .ref a :: st) := by
  obtain ⟨p, l, e, R, s, m, args, below, meth, c, Q, AA⟩ := X
  intro H locs ls hP hD hS hL
  obtain ⟨E1, hK, hX, rfl, rfl, hA⟩ := E
  subst href hw
  exact va_put E1.1 E1.2.1 E1.2.2.2.2 hin ty0 hty hnm E1.2.2.2.1 hK.1 hP hD hS q0 he hc k hk (E1.2.2.2.2 _ hlink) (fun _ h => h) hfin hd hn hfit hl hdg (fun H1 locs1 hP1 hD1 hS1 => kk H1 locs1 ls hP1 hD1 hS1 hL)
theorem n_get (E : Ec X l0 G R0 cc nL Ts own A) {a : Nat} {ref C : String} {T : u_T} {N ci index : Nat} (hin : ∀ w ∈ u_ws C T N, w ∈ Ts) (q0 : Nat) {fs : List Value} (he : ws[q0]? = some (a, .inr (ci, fs))) (hc : vwCl[ci]? = some (C, T, N)) (k : Nat) (hk : k < N) (href : ref = (T k).1) (hlink : Cond.fieldLink own index ref (T k).2.1 (T k).2.2.1 ∈ Ts) {v : Value} (hv : fs[k]? = some v) (hdg : decode cc pc = .ok (.getfield index, 3))
    (kk : Kn X G A ws L mc ms (pc + 3) (v :: st)) : Kn X G A ws L mc ms pc (.ref a :: st) := by
  obtain ⟨p, l, e, R, s, m, args, below, meth, c, Q, AA⟩ := X
  intro H locs ls hP hD hS hL
  obtain ⟨E1, hK, hX, rfl, rfl, hA⟩ := E
  subst href
  exact va_get E1.1 E1.2.1 E1.2.2.2.2 hin E1.2.2.2.1 hK.1 hP q0 he hc k hk (E1.2.2.2.2 _ hlink) (fun _ h => h) hv hdg (kk H locs ls hP hD hS hL)
theorem n_iast (E : Ec X l0 G R0 cc nL Ts own A) {a : Nat} (q0 : Nat) {n : Nat} {f : Nat → Int32} (he : ws[q0]? = some (a, .inl (gI G, n, .inl f))) {i : Int} {x : Int32} (h0 : 0 ≤ i) (h1 : i < n) (hn : n ≤ 100000) {ws' : va_W} (hw : ws.set q0 (a, .inl (gI G, n, .inl (upd f i.toNat x))) = ws') (hdg : decode cc pc = .ok (.iastore, 1))
    (kk : Kn X G A ws' L mc ms (pc + 1) st) : Kn X G A ws L mc ms pc (.int x :: .int (iI i) :: .ref a :: st) := by
  obtain ⟨p, l, e, R, s, m, args, below, meth, c, Q, AA⟩ := X
  intro H locs ls hP hD hS hL
  obtain ⟨E1, hK, hX, rfl, rfl, hA⟩ := E
  subst hw
  refine va_iast E1.1 E1.2.1 hK.1 hP hD hS q0 0 he rfl (iI_in h0 h1 hn) hdg (fun H1 locs1 hP1 hD1 hS1 => ?_)
  rw [iI_clamp h0 (by omega)] at hP1 hD1
  exact kk H1 locs1 ls hP1 hD1 hS1 hL
theorem n_astq (E : Ec X l0 G R0 cc nL Ts own A) {a v : Nat} (q0 qk : Nat) {n : Nat} {vs : List Value} {f : Nat → Option Nat} (he : ws[q0]? = some (a, .inl (gW G, n, .inr (.inr (.inr (.inr f)))))) (hv : ws[qk]? = some (v, .inr (4, vs))) {i : Int} (h0 : 0 ≤ i) (h1 : i < n) (hn : n ≤ 100000) {ws' : va_W} (hw : ws.set q0 (a, .inl (gW G, n, .inr (.inr (.inr (.inr (va_up f i.toNat (some v))))))) = ws') (hdg : decode cc pc = .ok (.aastore, 1))
    (kk : Kn X G A ws' L mc ms (pc + 1) st) : Kn X G A ws L mc ms pc (.ref v :: .int (iI i) :: .ref a :: st) := by
  obtain ⟨p, l, e, R, s, m, args, below, meth, c, Q, AA⟩ := X
  intro H locs ls hP hD hS hL
  obtain ⟨E1, hK, hX, rfl, rfl, hA⟩ := E
  subst hw
  refine va_astq (r := (RX4, TX4, 6)) E1.1 E1.2.1 hK.1 hP hD hS q0 1 qk 4 he rfl hv rfl (iI_in h0 h1 hn) hdg (fun H1 locs1 hP1 hD1 hS1 => ?_)
  rw [iI_clamp h0 (by omega)] at hP1 hD1
  exact kk H1 locs1 ls hP1 hD1 hS1 hL
theorem n_vret {h sz mct mst : Nat} {sh : va_W → Prop} (E : Ec X l0 G R0 cc nL Ts own (frC h sz)) (E2 : En X G h sz mct mst sh) (hc : mc = mct) (hs : ms = mst) (hsh : sh ws) (hdg : decode cc pc = .ok (.return_, 1)) : Kn X G (frC h sz) ws L mc ms pc [] := by
  obtain ⟨p, l, e, R, s, m, args, below, meth, c, Q, AA⟩ := X
  intro H locs ls hP hD hS hL
  obtain ⟨E1, hK, hX, rfl, rfl, hA⟩ := E
  obtain ⟨hnm', hr, hlk, rfl⟩ := E2
  subst hc hs
  exact W.vret E1.1 E1.2.1 hr (fun t ht _ => ⟨⟨ws, rfl, hsh, by rw [ht]; exact hP, hD⟩, hS.F ht⟩) hS.2.2 hdg hlk
/-- behind a constructor's call: the caller's other cells, and what came -/
theorem n_join {D : va_G} {cl : List vw_C} {wr w1 : va_W} {q : Nat} {e0 : va_E} {H H1 : Heap} (hP : va_P D cl (wr ++ [(q, e0)]) H) (hD : va_D A (wr ++ [(q, e0)])) (hk : ∀ a, a < H.size → ¬ frC q H.size a → H1[a]? = H[a]?) (hF : ∀ a, frC q H.size a → A a) (hP1 : va_P D cl w1 H1) (hD1 : va_D (frC q H.size) w1) : va_P D cl (wr ++ w1) H1 ∧ va_D A (wr ++ w1) := by
  have hq : (wr ++ [(q, e0)])[wr.length]? = some (q, e0) := by simp
  have hr : ∀ (k : Nat) (x : Nat × va_E), wr[k]? = some x → (wr ++ [(q, e0)])[k]? = some x ∧ x.1 < H.size ∧ x.1 ≠ q := fun k x hx => by
    have hl := (List.getElem?_eq_some_iff.mp hx).1
    have h1 : (wr ++ [(q, e0)])[k]? = some x := by rw [List.getElem?_append_left hl]; exact hx
    refine ⟨h1, (hP k x h1).lt, fun z => ?_⟩
    have := hD.1 k wr.length x (q, e0) h1 hq z
    omega
  have hfr : ∀ (k : Nat) (x : Nat × va_E), wr[k]? = some x → ¬ frC q H.size x.1 := fun k x hx z => by
    have y := hr k x hx
    rcases z with z | z
    · exact y.2.2 z
    · omega
  refine ⟨va_P.app (va_P.kept (fun k x hx => hP k x (hr k x hx).1) (fun k x hx => hk x.1 (hr k x hx).2.1 (hfr k x hx))) hP1, fun i j x y hx hy hxy => ?_, fun k x hx => ?_⟩
  · by_cases hi : i < wr.length <;> by_cases hj : j < wr.length
    · rw [List.getElem?_append_left hi] at hx
      rw [List.getElem?_append_left hj] at hy
      exact hD.1 i j x y (hr i x hx).1 (hr j y hy).1 hxy
    · rw [List.getElem?_append_left hi] at hx
      rw [List.getElem?_append_right (by omega)] at hy
      exact absurd (by rw [hxy]; exact hD1.2 _ y hy) (hfr i x hx)
    · rw [List.getElem?_append_right (by omega)] at hx
      rw [List.getElem?_append_left hj] at hy
      exact absurd (by rw [← hxy]; exact hD1.2 _ x hx) (hfr j y hy)
    · rw [List.getElem?_append_right (by omega)] at hx
      rw [List.getElem?_append_right (by omega)] at hy
      have := hD1.1 _ _ x y hx hy hxy
      omega
  · by_cases hi : k < wr.length
    · rw [List.getElem?_append_left hi] at hx
      exact hD.2 k x (hr k x hx).1
    · rw [List.getElem?_append_right (by omega)] at hx
      exact hF _ (hD1.2 _ x hx)
theorem Sn_pre {s : State} {H : Heap} {q : Nat} {e0 : va_E} {wr : va_W} (hK : Kx G s) (hX : Xt s) (hP : va_P G.1 vwCl (wr ++ [(q, e0)]) H) : PreS s H (va_Pc [.ref q] (Sn G q e0 H.size)) [.ref q] := by
  have hq : (wr ++ [(q, e0)])[wr.length]? = some (q, e0) := by simp
  refine ⟨fun a U g mk z => ⟨z.1, z.2.1, z.2.2.1, ⟨va_K.moved (u := U) (U := U.calling g mk a) (Vm.Alike.refl U.vm) z.2.2.2.1.1, z.2.2.2.1.2.same rfl⟩, ⟨va_AO.moved (u := U) (U := U.calling g mk a) (Vm.Alike.refl U.vm) z.2.2.2.2.1, va_Nw.same rfl rfl z.2.2.2.2.2⟩⟩, fun U hU hW => ⟨rfl, by rw [hU], ?_, hK.warm hW, hX.warm hW⟩⟩
  rw [hU]
  intro k x hx
  have h1 : k < 1 := (List.getElem?_eq_some_iff.mp hx).1
  rw [show k = 0 by omega] at hx
  cases hx
  exact hP _ _ hq
theorem n_go {p : Program} {l : Launch} {e : Env} {R : Room} {s : State} {m : MethodId} {args : Array Value} {below : List Frame} {meth : Method} {c : Code} {H : Heap} {locs : List Loc} {Q : State → Prop} {ls : Array Slot} {st0 rest : List Value} {a : Array Value} {q mc' ms' : Nat} {e0 : va_E} {wr : va_W} {sh' : va_W → Prop}
    (hr : va_Run p l e R s m args below meth c H locs mc ms mc' ms' (F0 m pc ls st0) rest (Qn G q H.size sh' a) (frC q H.size)) (hP : va_P G.1 vwCl (wr ++ [(q, e0)]) H) (hD : va_D A (wr ++ [(q, e0)])) (hS : va_S A s.heap H locs) (hA : ∀ z, s.heap.size ≤ z → A z)
    (kk : ∀ (w1 : va_W) (H1 : Heap) (locs1 : List Loc), sh' w1 → va_P G.1 vwCl (wr ++ w1) H1 → va_D A (wr ++ w1) → va_S A s.heap H1 locs1 → W p l e R s m args below meth c H1 locs1 (mc + mc') (ms + ms') Q (F0 m (pc + 3) ls rest)) : W p l e R s m args below meth c H locs mc ms Q (F0 m pc ls st0) := by
  have hq : (wr ++ [(q, e0)])[wr.length]? = some (q, e0) := by simp
  have hF : ∀ z, frC q H.size z → A z := fun z hz => by
    rcases hz with rfl | hz
    · exact hD.2 _ _ hq
    · exact hA z (Nat.le_trans hS.1 hz)
  intro T hT X'
  obtain ⟨v, st₀, t, T', L', h0, X2, hL', e1, e2, ⟨⟨w1, hv, hsh, hP1, hD1⟩, hz, hk⟩, sg⟩ := hr T hT X'
  cases hv
  rw [h0] at hz hk
  have hj := n_join hP hD hk hF hP1 hD1
  obtain ⟨t2, a1, b1⟩ := kk w1 T'.heap (locs ++ L') hsh (by rw [e1]; exact hj.1) hj.2
    ⟨Nat.le_trans hS.1 (by rw [e1]; exact hz), fun z h1 h2 => by rw [e1, hk z (Nat.lt_of_lt_of_le h1 hS.1) (fun y => h2 (hF z y))]; exact hS.2.1 z h1 h2, fun z hz => by
      rcases List.mem_append.mp hz with h | h
      · exact hS.2.2 z h
      · exact hF _ (hL' z h)⟩ T' rfl X2
  exact ⟨t2, sg t2 a1, b1⟩
theorem n_call (E : Ec X l0 G R0 cc nL Ts own A) {q index maxL : Nat} {e0 : va_E} {wr : va_W} {y : MethodName} {bytes : ByteArray} {wy wy' : List Cond} {rm : Room} {sh' : va_W → Prop} {a1 a2 : Nat} (hM : ∀ sz' : Nat, Met l0 y wy rm (va_Pc [.ref q] (Sn G q e0 sz')) (Qn G q sz' sh') a1 a2 (frC q sz')) (hg : GoodIn Ts wy) (hw : wy = Cond.code y bytes maxL none :: wy') (hrc : rm.cells = a1 ∧ rm.slots = a2) (ini : Cond.initialized y.cls ∈ Ts) (lk : Cond.methodLink own index y ∈ Ts) (im : Cond.instanceMethod y ∈ Ts) (hy : y.name = "<init>") (hd : y.cls ≠ "java/lang/invoke/MethodHandle" ∧ y.cls ≠ "java/lang/invoke/VarHandle" ∧ (parseMethodDescriptor y.desc).map (fun d => d.parameters.length) = some 0) (hR : rm.frames + 1 ≤ R0.frames ∧ 8 + (maxL + 11) + rm.locals ≤ R0.locals) (hnl : L.length = nL) (hst : (st.map fun v => v.category).sum ≤ 8) (mc' ms' : Nat) (e1 : mc + a1 = mc') (e2 : ms + a2 = ms') (hcs : mc' ≤ R0.cells ∧ ms' ≤ R0.slots) (hdg : decode cc pc = .ok (.invokespecial index, 3))
    (kk : ∀ w1 : va_W, sh' w1 → Kn X G A (wr ++ w1) L mc' ms' (pc + 3) st) : Kn X G A (wr ++ [(q, e0)]) L mc ms pc (.ref q :: st) := by
  obtain ⟨p, l, e, R, s, m, args, below, meth, c, Q, AA⟩ := X
  intro H locs ls hP hD hS hL
  obtain ⟨E1, hK, hX, rfl, rfl, hA⟩ := E
  subst e1 e2
  exact n_go (va_runI (As := []) E1 (hM H.size) (cwI 0 E1.2.2.2.2 hg hw hrc.1 hrc.2 (E1.2.2.2.2 _ ini) (E1.2.2.2.2 _ lk) (E1.2.2.2.2 _ im) hy hd hR) (Sn_pre hK hX hP) rfl rfl (hL.1.trans hnl) rfl (lv_room hst) hdg hcs) hP hD hS hA (fun w1 H1 locs1 hsh hP1 hD1 hS1 => kk w1 hsh H1 locs1 ls hP1 hD1 hS1 hL)
theorem n_callN (E : Ec X l0 G R0 cc nL Ts own A) {q index maxL : Nat} {e0 : va_E} {wr : va_W} {y : MethodName} {host : String} {bytes : ByteArray} {wy wy' : List Cond} {rm : Room} {sh' : va_W → Prop} {a1 a2 : Nat} (hM : ∀ sz' : Nat, Met l0 y wy rm (va_Pc [.ref q] (Sn G q e0 sz')) (Qn G q sz' sh') a1 a2 (frC q sz')) (hg : GoodIn Ts wy) (hw : wy = Cond.code y bytes maxL none :: wy') (hrc : rm.cells = a1 ∧ rm.slots = a2) (ini : Cond.initialized y.cls ∈ Ts) (lk : ∀ U, Xt U → va_Nw (.methodLinkNest own index y host) U) (im : Cond.instanceMethod y ∈ Ts) (hy : y.name = "<init>") (hd : y.cls ≠ "java/lang/invoke/MethodHandle" ∧ y.cls ≠ "java/lang/invoke/VarHandle" ∧ (parseMethodDescriptor y.desc).map (fun d => d.parameters.length) = some 0) (hR : rm.frames + 1 ≤ R0.frames ∧ 8 + (maxL + 11) + rm.locals ≤ R0.locals) (hnl : L.length = nL) (hst : (st.map fun v => v.category).sum ≤ 8) (mc' ms' : Nat) (e1 : mc + a1 = mc') (e2 : ms + a2 = ms') (hcs : mc' ≤ R0.cells ∧ ms' ≤ R0.slots) (hdg : decode cc pc = .ok (.invokespecial index, 3))
    (kk : ∀ w1 : va_W, sh' w1 → Kn X G A (wr ++ w1) L mc' ms' (pc + 3) st) : Kn X G A (wr ++ [(q, e0)]) L mc ms pc (.ref q :: st) := by
  obtain ⟨p, l, e, R, s, m, args, below, meth, c, Q, AA⟩ := X
  intro H locs ls hP hD hS hL
  obtain ⟨E1, hK, hX, rfl, rfl, hA⟩ := E
  subst e1 e2
  exact n_go (va_runIN (As := []) E1 (hM H.size) ⟨va_cnB 0 E1.2.2.2.2 hg hw hrc.1 hrc.2 (lk s hX) (E1.2.2.2.2 _ ini) hd hR, hy, E1.2.2.2.2 _ im⟩ (Sn_pre hK hX hP) rfl rfl (hL.1.trans hnl) rfl (lv_room hst) hdg hcs) hP hD hS hA (fun w1 H1 locs1 hsh hP1 hD1 hS1 => kk w1 hsh H1 locs1 ls hP1 hD1 hS1 hL)
end NR
theorem Kn.eq {X : Cx} {G : Gl} {A : Nat → Prop} {ws ws' : va_W} {L : List (Option Value)} {mc ms pc : Nat} {st : List Value} (h : ws = ws') (k : Kn X G A ws' L mc ms pc st) : Kn X G A ws L mc ms pc st := h ▸ k
/-! what the constructors leave -/
def eZ (G : Gl) (n : Nat) : va_E := .inl (gI G, n, .inl (fun _ => 0))
def eB (G : Gl) (a : Nat → Nat) : va_W := [(a 1, .inr (0, [.ref (a 2), .ref (a 3), .int (iI 1), .int (iI 0)])), (a 2, .inl (gI G, 320, .inl (fun _ => 0))), (a 3, .inl (gI G, 40, .inl (upd (fun _ => 0) 0 (iI 6))))]
def eS (G : Gl) (a : Nat → Nat) : va_W := [(a 4, .inr (3, [.ref (a 5), .ref (a 6), .ref (a 7), .int (iI 1), .int (iI 1)])), (a 5, .inl (gI G, 16, .inl (fun _ => 0))), (a 6, .inl (gI G, 16, .inl (upd (fun _ => 0) 0 (iI (-1))))), (a 7, .inl (gI G, 96, .inl (fun _ => 0)))]
def eW (G : Gl) (a : Nat → Nat) : va_W := [(a 0, .inr (4, [.ref (a 1), .ref (a 4), .ref (a 8), .ref (a 9), .int (iI 1), .int (iI 0)])), (a 1, .inr (0, [.ref (a 2), .ref (a 3), .int (iI 1), .int (iI 0)])), (a 2, .inl (gI G, 320, .inl (fun _ => 0))), (a 3, .inl (gI G, 40, .inl (upd (fun _ => 0) 0 (iI 6)))), (a 4, .inr (3, [.ref (a 5), .ref (a 6), .ref (a 7), .int (iI 1), .int (iI 1)])), (a 5, .inl (gI G, 16, .inl (fun _ => 0))), (a 6, .inl (gI G, 16, .inl (upd (fun _ => 0) 0 (iI (-1))))), (a 7, .inl (gI G, 96, .inl (fun _ => 0))), (a 8, .inl (gI G, 4, .inl (upd (upd (upd (fun _ => 0) 1 (iI (-1))) 2 (iI (-1))) 3 (iI (-1))))), (a 9, .inl (gI G, 48, .inl (fun _ => 0)))]
def eH (G : Gl) (h r : Nat) (a b c d : Nat → Nat) : va_W := [(h, .inr (1, [.ref r, .int (iI 0), .int (iI 0)])), (r, .inl (gW G, 4, .inr (.inr (.inr (.inr (va_up (va_up (va_up (va_up (fun _ => none) 0 (some (a 0))) 1 (some (b 0))) 2 (some (c 0))) 3 (some (d 0))))))))] ++ eW G a ++ eW G b ++ eW G c ++ eW G d
def eO (G : Gl) (a : Nat → Nat) : va_W := [(a 13, .inr (2, [.ref (a 14), .ref (a 15), .int (iI 0), .int (iI 0), .int (iI 0), .int (iI 0), .int (iI 0), .int (iI 0)])), (a 14, .inl (gI G, 60, .inl (fun _ => 0))), (a 15, .inl (gI G, 4, .inl (fun _ => 0)))]
def eX (G : Gl) (h : Nat) (a b c d e f : Nat → Nat) (k r : Nat) (o : Nat → Nat) : va_W := [(h, .inr (5, [.ref (a 0), .ref (b 0), .ref k, .ref (o 13)]))] ++ eW G a ++ eW G b ++ eH G k r c d e f ++ eO G o
def shX0 (G : Gl) (h : Nat) (w1 : va_W) : Prop := ∃ a : Nat → Nat, a 1 = h ∧ w1 = eB G a
def shX3 (G : Gl) (h : Nat) (w1 : va_W) : Prop := ∃ a : Nat → Nat, a 4 = h ∧ w1 = eS G a
def shX4 (G : Gl) (h : Nat) (w1 : va_W) : Prop := ∃ a : Nat → Nat, a 0 = h ∧ w1 = eW G a
def shX1 (G : Gl) (h : Nat) (w1 : va_W) : Prop := ∃ (r : Nat) (a b c d : Nat → Nat), w1 = eH G h r a b c d
def shX2 (G : Gl) (h : Nat) (w1 : va_W) : Prop := ∃ a : Nat → Nat, a 13 = h ∧ w1 = eO G a
def shX5 (G : Gl) (h : Nat) (w1 : va_W) : Prop := ∃ (a b c d e f : Nat → Nat) (k r : Nat) (o : Nat → Nat), w1 = eX G h a b c d e f k r o
theorem nst_X5_28 {U : State} (h : Xt U) : va_Nw (.methodLinkNest RX5 28 yX2_init "SharedStates") U := h.2
