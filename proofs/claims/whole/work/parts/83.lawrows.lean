/-! THE CLAIM OUT OF ONE WALK OF THE LAW'S BODY. Your part is whole_start (and what it stands on); all else here is the same for every law, but numbers. -/
def R_law : String := "SharedStatesLaw"
def lw_P (b : Addr) (xs : List Int32) (args : Array Value) (s : State) : Prop := args = #[.ref b] ∧ s.IntsAt b xs ∧ xs.length ≤ 3072 ∧ (Jvm.Cond.and given_1 narrow_1).before args s = true
def lw_Q (_ : Array Value) (s : State) (o : Outcome) (t : State) : Prop := o = .returned (some (.int 1)) ∧ Framed s o t [] 600000 7302250
def lw_Z (below : List Frame) (a : Array Value) (s : State) : State → Prop := fun t => ∃ o, t.status = .running ∧ Ended t below o ∧ lw_Q a s o t
/-- the law's own end, with 1 on the stack, nothing written that was there before, its room as the claim has it -/
theorem lw_ret {p : Program} {l : Launch} {e : Env} {s : State} {m : MethodId} {below : List Frame} {meth : Method} {c : Code} {b : Nat} (hx : p.tables.exec = Jvm.exec) (hb : c.code = code) (hr : meth.sig.returnType = ret) (hlocks : meth.locks = false) {pc : Nat} {H : Heap} {ls : Array Slot} (hdg : decode code pc = .ok (.ireturn, 1)) : W p l e room_1 s m #[Value.ref b] below meth c H [] 600000 7302250 (lw_Z below #[Value.ref b] s) (F0 m pc ls [.int 1]) := by
  intro T hT X
  obtain ⟨fs, hret, hrun, hended, hW, hframe⟩ := X.leave (v := some (.int 1)) (hlocks := hlocks) (fun h => by rw [hr] at h; cases h)
  have hmeth' : T.vm.method? m = some meth := X.method'
  refine ⟨T.setFrames fs, ?_, .returned (some (.int 1)), hrun, hended, rfl, ⟨_, rfl⟩, hW, hframe⟩
  jvm_step X.here [X.here.top, hx, hb, hdg, hmeth', hr, ret, narrow_b1]
  (try refine ⟨rfl, ?_⟩); (try refine ⟨rfl, ?_⟩)
  first | (intro acts; rw [hret _ acts rfl rfl rfl]) | rw [hret _ _ rfl rfl rfl]
  exact Steps.refl _
/-- what holds at the law's entry: the machine, the code, the tables' words (any of lw_tbl by 'hts w (by decide +kernel)'), the script of L ints xs at the cell b, what the Statement gives of the start (any of its parts by flat_of_before) -/
def lw_At (p : Program) (s : State) (m : MethodId) (meth : Method) (c : Code) (b L : Nat) (xs : Nat → Int32) : Prop :=
  p.tables.exec = Jvm.exec ∧ c.code = code ∧ meth.sig.returnType = ret ∧ c.maxLocals = 4 ∧ s.vm.findClass R_law = some m.cls ∧ (∀ w ∈ lw_tbl, w.before #[Value.ref b] s = true) ∧ va_X b L xs s s.heap ∧ b < s.heap.size ∧ meth.locks = false ∧ (Jvm.Cond.and given_1 narrow_1).before #[Value.ref b] s = true
/-! ===== the law's body, row by row ===== -/
def Ky (X : Cx) (G : Gl) (P : Nat → Nat) (V : Vt) (L : List (Option Value)) (pc : Nat) (st : List Value) : Prop :=
  match X with
  | (p, l, e, R, s, m, args, below, meth, c, Q) => ∀ (H : Heap) (locs : List Loc) (ls : Array Slot), va_P G.1 vwCl (WL G P V) H → va_S (fun q : Nat => s.heap.size ≤ q) s.heap H locs → Lh ls L → W p l e R s m args below meth c H locs 74 7027 Q (F0 m pc ls st)
def Ey (X : Cx) (l0 : Launch) (G : Gl) (b N : Nat) (xs : Nat → Int32) : Prop :=
  match X with
  | (p, l, _, R, s, m, args, below, meth, c, Q) => CallFix p m c code 4 s args wsL_law RL ∧ Kx G s ∧ Gok G ∧ R = room_1 ∧ l = l0 ∧ va_X b N xs s s.heap ∧ b < s.heap.size ∧ (∀ q, mem G q → s.heap.size ≤ q) ∧ args = #[Value.ref b] ∧ meth.sig.returnType = Jvm.Pilot.CSharedStatesLaw_law_r3850_9496a5.ret ∧ meth.locks = false ∧ Q = lw_Z below #[Value.ref b] s
/-- the j-th number of the script's n-th six -/
def xv (xs : Nat → Int32) (n j : Nat) : Int := (xs (6 * n + j)).toInt
theorem xv_R {xs : Nat → Int32} {n j : Nat} : inR (xv xs n j) := inR_toInt _
section YR
variable {X : Cx} {l0 : Launch} {G : Gl} {b N : Nat} {xs : Nat → Int32} {P : Nat → Nat} {V : Vt} {L : List (Option Value)} {pc : Nat} {st : List Value}
theorem y_iconst (E : Ey X l0 G b N xs) {n : Int} (hdg : decode code pc = .ok (.iconst n, 1)) (kk : Ky X G P V L (pc + 1) (.int (iI n) :: st)) : Ky X G P V L pc st := by
  obtain ⟨p, l, e, R, s, m, args, below, meth, c, Q⟩ := X
  intro H locs ls hP hS hL
  exact lv_iconst E.1.1 E.1.2.1 hdg rfl (kk H locs ls hP hS hL)
theorem y_bipush (E : Ey X l0 G b N xs) {n : Int} (hdg : decode code pc = .ok (.bipush n, 2)) (hv : (Int8.ofInt n).toInt32 = iI n) (kk : Ky X G P V L (pc + 2) (.int (iI n) :: st)) : Ky X G P V L pc st := by
  obtain ⟨p, l, e, R, s, m, args, below, meth, c, Q⟩ := X
  intro H locs ls hP hS hL
  exact lv_bipush E.1.1 E.1.2.1 hdg hv (kk H locs ls hP hS hL)
theorem y_iload_n (E : Ey X l0 G b N xs) {k : Fin 4} {x : Int32} (hdg : decode code pc = .ok (.iload_n k, 1)) (i : Nat) (hi : (k : Nat) = i) (hl : L[i]? = some (some (.int x))) (kk : Ky X G P V L (pc + 1) (.int x :: st)) : Ky X G P V L pc st := by
  obtain ⟨p, l, e, R, s, m, args, below, meth, c, Q⟩ := X
  intro H locs ls hP hS hL
  exact lv_iload_n E.1.1 E.1.2.1 hdg hi (hL.2.2 i _ hl).1 (kk H locs ls hP hS hL)
theorem y_aload_n (E : Ey X l0 G b N xs) {k : Fin 4} {x : Nat} (hdg : decode code pc = .ok (.aload_n k, 1)) (i : Nat) (hi : (k : Nat) = i) (hl : L[i]? = some (some (.ref x))) (kk : Ky X G P V L (pc + 1) (.ref x :: st)) : Ky X G P V L pc st := by
  obtain ⟨p, l, e, R, s, m, args, below, meth, c, Q⟩ := X
  intro H locs ls hP hS hL
  exact lv_aload_n E.1.1 E.1.2.1 hdg hi (hL.2.2 i _ hl).1 (kk H locs ls hP hS hL)
theorem y_iadd (E : Ey X l0 G b N xs) {x y : Int} (z : Int) (hz : x + y = z) (hdg : decode code pc = .ok (.iadd, 1)) (kk : Ky X G P V L (pc + 1) (.int (iI z) :: st)) : Ky X G P V L pc (.int (iI y) :: .int (iI x) :: st) := by
  obtain ⟨p, l, e, R, s, m, args, below, meth, c, Q⟩ := X
  intro H locs ls hP hS hL
  subst hz
  exact lv_iadd E.1.1 E.1.2.1 hdg (by rw [iI_add]; exact kk H locs ls hP hS hL)
theorem y_isub (E : Ey X l0 G b N xs) {x y : Int} (z : Int) (hz : x - y = z) (hdg : decode code pc = .ok (.isub, 1)) (kk : Ky X G P V L (pc + 1) (.int (iI z) :: st)) : Ky X G P V L pc (.int (iI y) :: .int (iI x) :: st) := by
  obtain ⟨p, l, e, R, s, m, args, below, meth, c, Q⟩ := X
  intro H locs ls hP hS hL
  subst hz
  exact lv_isub E.1.1 E.1.2.1 hdg (by rw [iI_sub]; exact kk H locs ls hP hS hL)
theorem y_iand (E : Ey X l0 G b N xs) {x y : Int32} (hdg : decode code pc = .ok (.iand, 1)) (kk : Ky X G P V L (pc + 1) (.int (x &&& y) :: st)) : Ky X G P V L pc (.int y :: .int x :: st) := by
  obtain ⟨p, l, e, R, s, m, args, below, meth, c, Q⟩ := X
  intro H locs ls hP hS hL
  exact lv_iand E.1.1 E.1.2.1 hdg (kk H locs ls hP hS hL)
theorem y_sld (E : Ey X l0 G b N xs) {i : Int} (k : Nat) (hk : i = (k : Int)) (h1 : k < N) (hN : N ≤ 3072) (hdg : decode code pc = .ok (.iaload, 1)) (kk : Ky X G P V L (pc + 1) (.int (xs k) :: st)) : Ky X G P V L pc (.int (iI i) :: .ref b :: st) := by
  obtain ⟨p, l, e, R, s, m, args, below, meth, c, Q⟩ := X
  intro H locs ls hP hS hL
  obtain ⟨E1, hK, hG, -, -, hX, hbl, -⟩ := E
  subst hk
  refine va_sld E1.1 E1.2.1 hX hbl (Nat.not_le.mpr hbl) hS (iI_in (by omega) (by omega) (by omega)) hdg ?_
  rw [iI_clamp (by omega) (by omega), Int.toNat_natCast]
  exact kk H locs ls hP hS hL
theorem y_slen (E : Ey X l0 G b N xs) (hdg : decode code pc = .ok (.arraylength, 1)) (kk : Ky X G P V L (pc + 1) (.int (iI (N : Int)) :: st)) : Ky X G P V L pc (.ref b :: st) := by
  obtain ⟨p, l, e, R, s, m, args, below, meth, c, Q⟩ := X
  intro H locs ls hP hS hL
  obtain ⟨E1, hK, hG, -, -, hX, hbl, -⟩ := E
  refine va_slen E1.1 E1.2.1 hX hbl (Nat.not_le.mpr hbl) hS hdg ?_
  rw [← nI, ← iI_nat]
  exact kk H locs ls hP hS hL
theorem y_gt (E : Ey X l0 G b N xs) {x y : Int} {off : Int} (tgt : Nat) (hdg : decode code pc = .ok (.if_icmp .gt off, 3)) (ht : (pc : Int) + off = (tgt : Int)) (hx : inR x) (hy : inR y) (kt : y < x → Ky X G P V L tgt st) (kf : ¬ y < x → Ky X G P V L (pc + 3) st) : Ky X G P V L pc (.int (iI y) :: .int (iI x) :: st) := by
  obtain ⟨p, l, e, R, s, m, args, below, meth, c, Q⟩ := X
  intro H locs ls hP hS hL
  exact lv_icmp_gt E.1.1 E.1.2.1 hdg ht (fun q => kt ((iI_lt hy hx).mp q) H locs ls hP hS hL) (fun q => kf (fun z => q ((iI_lt hy hx).mpr z)) H locs ls hP hS hL)
theorem y_eq (E : Ey X l0 G b N xs) {x : Int32} {off : Int} (tgt : Nat) (hdg : decode code pc = .ok (.if_icmp .eq off, 3)) (ht : (pc : Int) + off = (tgt : Int)) (kk : Ky X G P V L tgt st) : Ky X G P V L pc (.int x :: .int x :: st) := by
  obtain ⟨p, l, e, R, s, m, args, below, meth, c, Q⟩ := X
  intro H locs ls hP hS hL
  exact lv_icmp_eq E.1.1 E.1.2.1 hdg ht (fun _ => kk H locs ls hP hS hL) (fun q => absurd rfl q)
theorem y_tsI (E : Ey X l0 G b N xs) {dflt lo hi : Int} {offs : Array Int} {len : Nat} {x : Int32} {off : Int} (k : Int) (tgt : Nat) (hk : x.toInt = k) (hdg : decode code pc = .ok (.tableswitch dflt lo hi offs, len)) (h1 : ¬ k < lo) (h2 : ¬ hi < k) (ho : offs[(k - lo).toNat]? = some off) (ht : (pc : Int) + off = (tgt : Int)) (kk : Ky X G P V L tgt st) : Ky X G P V L pc (.int x :: st) := by
  obtain ⟨p, l, e, R, s, m, args, below, meth, c, Q⟩ := X
  intro H locs ls hP hS hL
  subst hk
  exact lv_tableIn E.1.1 E.1.2.1 hdg h1 h2 ho ht (kk H locs ls hP hS hL)
theorem y_tsO (E : Ey X l0 G b N xs) {dflt lo hi : Int} {offs : Array Int} {len : Nat} {x : Int32} (tgt : Nat) (hdg : decode code pc = .ok (.tableswitch dflt lo hi offs, len)) (h : x.toInt < lo ∨ hi < x.toInt) (ht : (pc : Int) + dflt = (tgt : Int)) (kk : Ky X G P V L tgt st) : Ky X G P V L pc (.int x :: st) := by
  obtain ⟨p, l, e, R, s, m, args, below, meth, c, Q⟩ := X
  intro H locs ls hP hS hL
  exact lv_tableOut E.1.1 E.1.2.1 hdg h ht (kk H locs ls hP hS hL)
theorem y_istore_n (E : Ey X l0 G b N xs) {k : Fin 4} {x : Int32} (hdg : decode code pc = .ok (.istore_n k, 1)) (i : Nat) (hi : (k : Nat) = i) {L' : List (Option Value)} (hn : i < L.length) (hl : L.set i (some (.int x)) = L') (kk : Ky X G P V L' (pc + 1) st) : Ky X G P V L pc (.int x :: st) := by
  obtain ⟨p, l, e, R, s, m, args, below, meth, c, Q⟩ := X
  intro H locs ls hP hS hL
  subst hl
  exact lv_istore_n E.1.1 E.1.2.1 hdg hi hL.enum hn rfl (fun ls' hl' => kk H locs ls' hP hS (hL.store rfl hl'))
theorem y_iinc (E : Ey X l0 G b N xs) {i : Nat} {n : Int} (x y : Int) (hdg : decode code pc = .ok (.iinc i n, 3)) {L' : List (Option Value)} (hn : i < L.length) (hx : L[i]? = some (some (.int (iI x)))) (hy : x + n = y) (hl : L.set i (some (.int (iI y))) = L') (kk : Ky X G P V L' (pc + 3) st) : Ky X G P V L pc st := by
  obtain ⟨p, l, e, R, s, m, args, below, meth, c, Q⟩ := X
  intro H locs ls hP hS hL
  subst hl hy
  obtain ⟨k, hk⟩ := List.getElem?_of_mem (l := L.zipIdx.filterMap (fun q => q.1.map (fun v => (q.2, v)))) (a := (i, .int (iI x))) (List.mem_filterMap.mpr ⟨(some (.int (iI x)), i), List.mem_zipIdx_iff_getElem?.mpr hx, rfl⟩)
  exact lv_iinc (v := iI (x + n)) E.1.1 E.1.2.1 hdg hL.enum hk (iI_add x n) hn rfl (fun ls' hl' => kk H locs ls' hP hS (hL.store rfl hl'))
theorem y_goto (E : Ey X l0 G b N xs) {off : Int} (tgt : Nat) (hdg : decode code pc = .ok (.goto off, 3)) (ht : (pc : Int) + off = (tgt : Int)) (kk : Ky X G P V L tgt st) : Ky X G P V L pc st := by
  obtain ⟨p, l, e, R, s, m, args, below, meth, c, Q⟩ := X
  intro H locs ls hP hS hL
  exact lv_goto E.1.1 E.1.2.1 hdg ht (kk H locs ls hP hS hL)
/-- the law's end -/
theorem y_end (E : Ey X l0 G b N xs) (hdg : decode code pc = .ok (.ireturn, 1)) : Ky X G P V L pc [.int (iI 1)] := by
  obtain ⟨p, l, e, R, s, m, args, below, meth, c, Q⟩ := X
  intro H locs ls hP hS hL
  obtain ⟨E1, hK, hG, rfl, rfl, hX, hbl, -, rfl, hr, hlk, rfl⟩ := E
  refine va_forget hS.2.2 (W.widen (k := 600000) (n := 7302250) (by omega) (by omega) ?_)
  exact lw_ret E1.1 E1.2.1 hr hlk hdg
/-- one number of the script -/
theorem y_arg (E : Ey X l0 G b N xs) {n : Nat} {jj : Int} (j : Nat) (hj : jj = (j : Int)) (h0 : L[0]? = some (some (.ref b))) (h3 : L[3]? = some (some (.int (iI (6 * (n : Int)))))) (hN : N ≤ 3072) (h6 : 6 * n + j < N)
    (d0 : decode code pc = .ok (.aload_n 0, 1)) (d1 : decode code (pc + 1) = .ok (.iload_n 3, 1)) (d2 : decode code (pc + 2) = .ok (.iconst jj, 1)) (d3 : decode code (pc + 3) = .ok (.iadd, 1)) (d4 : decode code (pc + 4) = .ok (.iaload, 1))
    (kk : Ky X G P V L (pc + 5) (.int (iI (xv xs n j)) :: st)) : Ky X G P V L pc st := by
  refine y_aload_n E d0 0 rfl h0 ?_
  refine y_iload_n E d1 3 rfl h3 ?_
  refine y_iconst E d2 ?_
  refine y_iadd E (6 * (n : Int) + jj) rfl d3 ?_
  refine y_sld E (6 * n + j) (by omega) h6 hN d4 ?_
  unfold xv at kk
  rw [iI_self] at kk
  exact kk
/-- behind a call of the law -/
theorem y_go {p : Program} {l : Launch} {e : Env} {R : Room} {s : State} {m : MethodId} {args : Array Value} {below : List Frame} {meth : Method} {c : Code} {H : Heap} {locs : List Loc} {Q : State → Prop} {ls : Array Slot} {st0 rest : List Value} {a : Array Value} {post' : Int → (Nat → Nat) → Vt → Prop}
    (hr : va_Run p l e R s m args below meth c H locs 74 7027 0 0 (F0 m pc ls st0) rest (Qk G mkI post' a) (mem G)) (hA : ∀ q, mem G q → s.heap.size ≤ q) (hS : va_S (fun q : Nat => s.heap.size ≤ q) s.heap H locs) (hL : Lh ls L)
    (kk : ∀ (r : Int) (P' : Nat → Nat) (V' : Vt), post' r P' V' → ∀ (H1 : Heap) (locs1 : List Loc) (ls : Array Slot), va_P G.1 vwCl (WL G P' V') H1 → va_S (fun q : Nat => s.heap.size ≤ q) s.heap H1 locs1 → Lh ls L → W p l e R s m args below meth c H1 locs1 74 7027 Q (F0 m (pc + 3) ls (.int (iI r) :: rest))) : W p l e R s m args below meth c H locs 74 7027 Q (F0 m pc ls st0) := by
  intro T hT X'
  obtain ⟨v, st₀, t, T', L', h0, X2, hL', e1, e2, ⟨⟨r, P', V', hv, hp, hb⟩, hz, hk⟩, sg⟩ := hr T hT X'
  cases hv
  rw [h0] at hz hk
  obtain ⟨t2, a1, b1⟩ := kk r P' V' hp T'.heap (locs ++ L') ls (by rw [e1]; exact hb)
    ⟨Nat.le_trans hS.1 (by rw [e1]; exact hz), fun q h1 h2 => by rw [e1, hk q (Nat.lt_of_lt_of_le h1 hS.1) (fun z => h2 (hA q z))]; exact hS.2.1 q h1 h2, fun q hq => by
      rcases List.mem_append.mp hq with h | h
      · exact hS.2.2 q h
      · exact hA _ (hL' q h)⟩ hL T' rfl X2
  exact ⟨t2, sg t2 a1, b1⟩
theorem y_callV (E : Ey X l0 G b N xs) {r w ci NN index maxL n : Nat} (hv : vl r w = true) {C : String} {T : u_T} {fs : List Value} (he : cE G P (V r w) r w = .inr (ci, fs)) (hc : vwCl[ci]? = some (C, T, NN)) {y : MethodName} {bytes : ByteArray} {ret' : Option FieldType} {ws ws' : List Cond} {rm : Room} {post' : Int → (Nat → Nat) → Vt → Prop} (As : List Value) {st0 : List Value}
    (hM : Met l0 y ws rm (va_Pc (.ref (ad G r w) :: As) (Sg G P V)) (Qk G mkI post') 0 0 (mem G)) (hg : GoodIn wsL_law (wsV RL index C y ws)) (hw : ws = Cond.code y bytes maxL ret' :: ws') (hrc : rm.cells = 0 ∧ rm.slots = 0) (hd : y.cls = C ∧ y.cls ≠ "java/lang/invoke/MethodHandle" ∧ y.cls ≠ "java/lang/invoke/VarHandle" ∧ (parseMethodDescriptor y.desc).map (fun d => d.parameters.length) = some n) (hR : rm.frames + 1 ≤ 13 ∧ 8 + (maxL + 11) + rm.locals ≤ 498) (hn : As.length = n) (hnl : L.length = 4) (hst : (st.map fun v => v.category).sum ≤ 8) (hs : st0 = As.reverse ++ .ref (ad G r w) :: st) (hdg : decode code pc = .ok (.invokevirtual index, 3))
    (kk : ∀ (r : Int) (P' : Nat → Nat) (V' : Vt), post' r P' V' → Ky X G P' V' L (pc + 3) (.int (iI r) :: st)) : Ky X G P V L pc st0 := by
  obtain ⟨p, l, e, R, s, m, args, below, meth, c, Q⟩ := X
  intro H locs ls hP hS hL
  obtain ⟨E1, hK, hG, rfl, rfl, -, -, hA, -⟩ := E
  exact y_go (va_runV E1 hM (cwV n E1.2.2.2.2 hg hw hrc.1 hrc.2 hd hR) (Sg_preV hK hG hP hv he hc As) rfl hn (hL.1.trans hnl) hs (lv_room hst) hdg ⟨by decide +kernel, by decide +kernel⟩) hA hS hL kk
end YR
