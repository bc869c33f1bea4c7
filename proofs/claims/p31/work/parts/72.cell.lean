/-! ===== a cell of the script ===== -/
def Pcell (b N : Nat) (xs : Nat → Int32) (U : State) : Prop := va_X b N xs U U.heap ∧ b < U.heap.size
def Qcell : Array Value → State → Outcome → State → Prop := fun _ st o t => (∃ r : Int, inR r ∧ o = .returned (some (.int (iI r)))) ∧ va_F (fun _ => False) st t
theorem kL_cell (l : Launch) (b N : Nat) (xs : Nat → Int32) (k : Int) (hN : N ≤ 260) (k0 : 0 ≤ k) (k1 : k ≤ 1000) : Met l yL_cell wsL_cell ({ frames := 0, cells := 0, slots := 0, locals := 0 }) (va_Pc [.ref b, .int (iI k)] (Pcell b N xs)) Qcell 0 0 (fun _ => False) := by
  refine Met.ofW (cc := cL_cell) (maxL := 2) (ret := some .int) (by decide +kernel) rfl ?_
  intro p e s m args below meth c s₁ B hml hv
  obtain ⟨rfl, hX, hbl⟩ := hv
  have hown : s.vm.findClass RL = some m.cls := findClass_of_methodNamed B.named
  have hl := lv_entry [.ref b, .int (iI k)] (n := 2) (by rw [← layL_len]; exact Nat.le_of_ble_eq_true rfl)
  obtain ⟨h1, h2⟩ := lay_start (av := [.ref b, .int (iI k)]) (L := [some (.ref b), some (.int (iI k))]) (nL := 2) rfl (Nat.le_of_ble_eq_true rfl)
  rw [lg_entry_eq]
  have hL := Lh_of_has hl h1 h2
  have hx := B.exec
  have hb := B.bytes
  have hc7 := atoms_spec (ws := wsL_cell) B.pre _ (show Cond.constant RL 7 40503 ∈ wsL_cell by decide +kernel)
  have hS : va_S (fun _ : Nat => False) s.heap s.heap [] := va_S.rf
  have hend : ∀ (x : Int32) (ls : Array Slot), W p l e (headSpec wsL_cell { frames := 0, cells := 0, slots := 0, locals := 0 }).room s m [Value.ref b, .int (iI k)].toArray below meth c s.heap [] 0 0 (MQ below Qcell [Value.ref b, .int (iI k)].toArray s 0 0 (fun _ => False)) (F0 m 18 ls [.int x]) := fun x ls =>
    W.iret (v := x) hx hb B.returns (fun t ht _ => ⟨⟨x.toInt, inR_toInt _, by rw [iI_self]⟩, va_S.F hS ht⟩) hS.2.2 dL_cell_18 B.notSynchronized
  refine lv_iload_n hx hb dL_cell_0 rfl (hL.2.2 1 _ rfl) ?_
  refine lv_aload_n hx hb dL_cell_1 rfl (hL.2.2 0 _ rfl) ?_
  refine va_slen hx hb hX hbl (fun z => z) hS dL_cell_2 ?_
  rw [← nI, ← iI_nat]
  refine lv_icmp_ge hx hb dL_cell_3 (tgt := 12) rfl (fun _ => ?_) (fun q => ?_)
  · refine lv_ldc hx hb hown hc7 dL_cell_12 ?_
    refine lv_iload_n hx hb dL_cell_14 rfl (hL.2.2 1 _ rfl) ?_
    refine lv_iconst (n := 3) hx hb dL_cell_15 rfl ?_
    refine lv_iadd hx hb dL_cell_16 ?_
    refine lv_imul hx hb dL_cell_17 ?_
    exact hend _ _
  · have hk : k < (N : Int) := Int.not_le.mp (fun z => q ((iI_le (x := (N : Int)) (y := k) (by omega) (by omega)).mpr z))
    refine lv_aload_n hx hb dL_cell_6 rfl (hL.2.2 0 _ rfl) ?_
    refine lv_iload_n hx hb dL_cell_7 rfl (hL.2.2 1 _ rfl) ?_
    refine va_sld hx hb hX hbl (fun z => z) hS (iI_in k0 hk (by omega)) dL_cell_8 ?_
    refine lv_goto hx hb dL_cell_9 (tgt := 18) rfl ?_
    exact hend _ _
/-- the script stands, and is none of what may change -/
def Xs (X : Cx) (b N : Nat) (xs : Nat → Int32) : Prop := match X with
  | (_, _, _, _, s, _, _, _, _, _, _, A) => va_X b N xs s s.heap ∧ b < s.heap.size ∧ ¬ A b
section CELL
variable {X : Cx} {l0 : Launch} {G : Gl} {R0 : Room} {cc : ByteArray} {nL : Nat} {Ts : List Cond} {own : String} {P : Nat → Nat} {V : Vt} {uc us : Nat} {L : List (Option Value)} {pc : Nat} {st : List Value} {b N : Nat} {xs : Nat → Int32}
theorem z_cell (E : Ev X l0 G R0 cc nL Ts own) (hX : Xs X b N xs) {k : Int} {index : Nat} (hN : N ≤ 260) (k0 : 0 ≤ k) (k1 : k ≤ 1000) (hg : GoodIn Ts (va_wsS own index yL_cell wsL_cell)) (hR : 0 + 1 ≤ R0.frames ∧ 8 + (2 + 11) + 0 ≤ R0.locals) (hnl : L.length = nL) (hst : (st.map fun v => v.category).sum ≤ 8) (hdg : decode cc pc = .ok (.invokestatic index, 3)) (hNn : uc ≤ R0.cells ∧ us ≤ R0.slots)
    (kk : ∀ r : Int, inR r → Kz X G P V uc us L (pc + 3) (.int (iI r) :: st)) : Kz X G P V uc us L pc (.int (iI k) :: .ref b :: st) := by
  obtain ⟨p, l, e, R, s, m, args, below, meth, c, Q, A⟩ := X
  intro H locs ls hP hS hL
  obtain ⟨E1, hK, hG, rfl, rfl, hA⟩ := E
  obtain ⟨hx, hbl, hbA⟩ := hX
  have hp : PreS s H (va_Pc [.ref b, .int (iI k)] (Pcell b N xs)) [.ref b, .int (iI k)] := ⟨fun a U g mk q => ⟨q.1, va_X.moved (u := U) (U := U.calling g mk a) (Vm.Alike.refl U.vm) q.2.1, q.2.2⟩, fun U hU hW => ⟨rfl, by rw [hU]; exact (hx.kept (hS.2.1 b hbl hbA)).moved hW.alike, by rw [hU]; exact Nat.lt_of_lt_of_le hbl hS.1⟩⟩
  intro T hT X'
  obtain ⟨v, st₀, t, T', L', h0, X2, hL', e1, e2, ⟨⟨r, hr, hv⟩, hz, hk⟩, sg⟩ := (va_runS (g := F0 m pc ls (.int (iI k) :: .ref b :: st)) (As := [.ref b, .int (iI k)]) (rest := st) (locs := locs) (H := H) (p := p) (l := l) (e := e) (R := R) (below := below) (meth := meth) (c := c) E1 (kL_cell l b N xs k hN k0 k1) (va_cwS 2 E1.2.2.2.2 hg rfl rfl rfl (by decide +kernel) hR) hp rfl rfl (hL.1.trans hnl) rfl (lv_room hst) hdg hNn) T hT X'
  cases hv
  rw [h0] at hz hk
  obtain ⟨t2, a1, b1⟩ := kk r hr T'.heap (locs ++ L') ls (by rw [e1]; exact va_P.kept (fun k x hx => hP k x hx) (fun k x hx => hk x.1 (hP k x hx).lt (fun z => z)))
    ⟨Nat.le_trans hS.1 (by rw [e1]; exact hz), fun q h1 h2 => by rw [e1, hk q (Nat.lt_of_lt_of_le h1 hS.1) (fun z => z)]; exact hS.2.1 q h1 h2, fun q hq => by
      rcases List.mem_append.mp hq with h | h
      · exact hS.2.2 q h
      · exact absurd (hL' q h) (fun z => z)⟩ hL T' rfl X2
  exact ⟨t2, sg t2 a1, b1⟩
end CELL
