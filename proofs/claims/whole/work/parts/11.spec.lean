/-! ===== words for what the methods answer; rows for the walks of the class and the reference ===== -/
section SP
variable {X : Cx} {l0 : Launch} {G : Gl} {R0 : Room} {cc : ByteArray} {nL : Nat} {Ts : List Cond} {own : String} {ret : Option FieldType} {mk : Int → Option Value} {post : Int → (Nat → Nat) → Vt → Prop} {P : Nat → Nat} {V : Vt} {L : List (Option Value)} {pc : Nat} {st : List Value}
noncomputable def b2i (p : Prop) : Int := @ite _ p (Classical.propDecidable p) 1 0
theorem b2i_t {p : Prop} (h : p) : b2i p = 1 := if_pos h
theorem b2i_f {p : Prop} (h : ¬ p) : b2i p = 0 := if_neg h
theorem b2i_01 (p : Prop) : b2i p = 0 ∨ b2i p = 1 := by
  by_cases h : p
  · exact Or.inr (b2i_t h)
  · exact Or.inl (b2i_f h)
theorem b2i_b (p : Prop) : 0 ≤ b2i p ∧ b2i p ≤ 1 := by rcases b2i_01 p with h | h <;> omega
theorem b2i_eq0 {p : Prop} : b2i p = 0 ↔ ¬ p := ⟨fun h q => by rw [b2i_t q] at h; omega, b2i_f⟩
theorem b2i_eq1 {p : Prop} : b2i p = 1 ↔ p := ⟨fun h => Classical.byContradiction fun q => by rw [b2i_f q] at h; omega, b2i_t⟩
theorem b2i_iff {p q : Prop} (h : p ↔ q) : b2i p = b2i q := by
  by_cases hp : p
  · rw [b2i_t hp, b2i_t (h.mp hp)]
  · rw [b2i_f hp, b2i_f (fun z => hp (h.mpr z))]
def smN (f : Int → Int) : Nat → Int
  | 0 => 0
  | n + 1 => smN f n + f n
/-- the sum over 0 .. n-1 -/
def sm (n : Int) (f : Int → Int) : Int := smN f n.toNat
theorem sm_0 {f : Int → Int} {n : Int} (h : n ≤ 0) : sm n f = 0 := by
  unfold sm; rw [show n.toNat = 0 by omega]; rfl
theorem sm_s {f : Int → Int} {k : Int} (h : 0 ≤ k) : sm (k + 1) f = sm k f + f k := by
  unfold sm
  rw [show (k + 1).toNat = k.toNat + 1 by omega]
  show smN f k.toNat + f (k.toNat : Int) = _
  rw [Int.toNat_of_nonneg h]
theorem smN_congr {f g : Int → Int} : ∀ n : Nat, (∀ j : Int, 0 ≤ j → j < n → f j = g j) → smN f n = smN g n
  | 0, _ => rfl
  | n + 1, h => by
    show smN f n + f n = smN g n + g n
    rw [smN_congr n (fun j h0 h1 => h j h0 (by omega)), h n (by omega) (by omega)]
theorem sm_congr {n : Int} {f g : Int → Int} (h : ∀ j : Int, 0 ≤ j → j < n → f j = g j) : sm n f = sm n g := smN_congr _ (fun j h0 h1 => h j h0 (by omega))
theorem smN_bd {f : Int → Int} {c : Int} : ∀ n : Nat, (∀ j : Int, 0 ≤ j → j < n → 0 ≤ f j ∧ f j ≤ c) → 0 ≤ smN f n ∧ smN f n ≤ c * n
  | 0, _ => by simp [smN]
  | n + 1, h => by
    have h1 := smN_bd n (fun j h0 h1 => h j h0 (by omega))
    have h2 := h n (by omega) (by omega)
    show 0 ≤ smN f n + f n ∧ smN f n + f n ≤ c * ((n : Int) + 1)
    rw [Int.mul_add]
    omega
theorem sm_bd {n : Int} {f : Int → Int} (c : Int) (hn : 0 ≤ n) (h : ∀ j : Int, 0 ≤ j → j < n → 0 ≤ f j ∧ f j ≤ c) : 0 ≤ sm n f ∧ sm n f ≤ c * n := by
  have := smN_bd (c := c) (f := f) n.toNat (fun j h0 h1 => h j h0 (by omega))
  unfold sm
  rw [Int.toNat_of_nonneg hn] at this
  exact this
theorem sm_b2i_bd {n : Int} {p : Int → Prop} (hn : 0 ≤ n) : 0 ≤ sm n (fun j => b2i (p j)) ∧ sm n (fun j => b2i (p j)) ≤ n := by
  have := sm_bd (n := n) (f := fun j => b2i (p j)) 1 hn (fun j _ _ => b2i_b _)
  omega
/-- the first of 0 .. n-1 with a property, or -1 -/
noncomputable def fnd (n : Int) (p : Int → Prop) : Int := @dite _ (∃ k : Int, 0 ≤ k ∧ k < n ∧ p k ∧ ∀ j, 0 ≤ j → j < k → ¬ p j) (Classical.propDecidable _) (fun h => Classical.choose h) (fun _ => -1)
theorem fnd_y {n k : Int} {p : Int → Prop} (h0 : 0 ≤ k) (h1 : k < n) (h2 : p k) (h3 : ∀ j, 0 ≤ j → j < k → ¬ p j) : fnd n p = k := by
  have hx : ∃ k : Int, 0 ≤ k ∧ k < n ∧ p k ∧ ∀ j, 0 ≤ j → j < k → ¬ p j := ⟨k, h0, h1, h2, h3⟩
  have hc := Classical.choose_spec hx
  have e : fnd n p = Classical.choose hx := dif_pos hx
  rw [e]
  rcases Int.lt_trichotomy (Classical.choose hx) k with h | h | h
  · exact absurd hc.2.2.1 (h3 _ hc.1 h)
  · exact h
  · exact absurd h2 (hc.2.2.2 _ h0 h)
theorem fnd_n {n : Int} {p : Int → Prop} (h : ∀ j, 0 ≤ j → j < n → ¬ p j) : fnd n p = -1 :=
  dif_neg (fun ⟨k, h0, h1, h2, _⟩ => h k h0 h1 h2)
theorem fnd_c (n : Int) (p : Int → Prop) : (fnd n p = -1 ∧ ∀ j, 0 ≤ j → j < n → ¬ p j) ∨ (0 ≤ fnd n p ∧ fnd n p < n ∧ p (fnd n p) ∧ ∀ j, 0 ≤ j → j < fnd n p → ¬ p j) := by
  have key : ∀ m : Nat, (∀ j : Int, 0 ≤ j → j < m → ¬ p j) ∨ ∃ k : Int, 0 ≤ k ∧ k < m ∧ p k ∧ ∀ j, 0 ≤ j → j < k → ¬ p j := by
    intro m
    induction m with
    | zero => exact Or.inl (fun j h0 h1 => by omega)
    | succ m ih =>
      rcases ih with h | ⟨k, h0, h1, h2, h3⟩
      · by_cases hp : p m
        · exact Or.inr ⟨m, by omega, by omega, hp, fun j g0 g1 => h j g0 g1⟩
        · refine Or.inl (fun j g0 g1 => ?_)
          rcases Int.lt_or_le j m with q | q
          · exact h j g0 q
          · rw [show j = (m : Int) by omega]; exact hp
      · exact Or.inr ⟨k, h0, by omega, h2, h3⟩
  rcases key n.toNat with h | ⟨k, h0, h1, h2, h3⟩
  · have hn : ∀ j, 0 ≤ j → j < n → ¬ p j := fun j h0 h1 => h j h0 (by omega)
    exact Or.inl ⟨fnd_n hn, hn⟩
  · have e := fnd_y (n := n) h0 (by omega) h2 h3
    exact Or.inr (by rw [e]; exact ⟨h0, by omega, h2, h3⟩)
theorem fnd_bd (n : Int) (p : Int → Prop) (hn : 0 ≤ n) : -1 ≤ fnd n p ∧ fnd n p < n := by
  rcases fnd_c n p with h | h <;> omega
theorem fnd_congr {n : Int} {p q : Int → Prop} (h : ∀ j : Int, 0 ≤ j → j < n → (p j ↔ q j)) : fnd n p = fnd n q := by
  rcases fnd_c n q with ⟨e, g⟩ | ⟨h0, h1, h2, h3⟩
  · rw [e]; exact fnd_n (fun j a b => fun z => g j a b ((h j a b).mp z))
  · exact fnd_y h0 h1 ((h _ h0 h1).mpr h2) (fun j a b z => h3 j a b ((h j a (by omega)).mp z))
/-- what never need be compared: counters, and rows that are only copied -/
def ctr (r : Nat) (j : Int) : Prop := r = 1 ∨ (r = 0 ∧ j = 5) ∨ (r = 17 ∧ 2 ≤ j ∧ j ≤ 4) ∨ r = 18 ∨ r = 19 ∨ r = 23
def BV (V : Vt) : Prop := ∀ (r w : Nat) (j : Int), ¬ ctr r j → inR (V r w j)
def sfR (r : Nat) : Bool := !(Nat.beq r 0 || Nat.beq r 1 || Nat.beq r 17 || Nat.beq r 18 || Nat.beq r 19 || Nat.beq r 23)
theorem sfR_ctr {r : Nat} {j : Int} (h : sfR r = true) : ¬ ctr r j := by
  intro hz
  rcases hz with rfl | ⟨rfl, -⟩ | ⟨rfl, -⟩ | rfl | rfl | rfl <;> cases h
theorem BV.g {V : Vt} (h : BV V) (r w : Nat) (j : Int) (hr : sfR r = true) : inR (V r w j) := h r w j (sfR_ctr hr)
theorem BV.g0 {V : Vt} (h : BV V) (w : Nat) : inR (V 0 w 4) := h 0 w 4 (by intro hz; simp only [ctr] at hz; omega)
theorem BV.s {V : Vt} (h : BV V) (j : Int) (hj : ¬ (2 ≤ j ∧ j ≤ 4)) : inR (V 17 0 j) := h 17 0 j (by intro hz; simp only [ctr] at hz; omega)
theorem BV_upF {V : Vt} {r w : Nat} {g : Int → Int} (h : BV V) (hx : ∀ j, ¬ ctr r j → inR (g j)) : BV (up V r w g) := by
  intro r' w' j hj
  by_cases hq : r' = r ∧ w' = w
  · obtain ⟨rfl, rfl⟩ := hq
    rw [up_s]; exact hx j hj
  · rw [up_o hq]; exact h r' w' j hj
theorem BV_up {V : Vt} {r w : Nat} {i x : Int} (h : BV V) (hx : ¬ ctr r i → inR x) : BV (up V r w (updI (V r w) i x)) := by
  refine BV_upF h (fun j hj => ?_)
  unfold updI
  split
  · rename_i e; subst e; exact hx hj
  · exact h r w j hj
def cpI (f g : Int → Int) (sp dp n : Int) : Int → Int := fun j => if dp ≤ j ∧ j < dp + n then f (sp + (j - dp)) else g j
theorem BV_upC {V : Vt} {r1 w1 r2 w2 : Nat} {sp dp n : Int} (h : BV V) (h1 : sfR r1 = true) : BV (up V r2 w2 (cpI (V r1 w1) (V r2 w2) sp dp n)) := by
  refine BV_upF h (fun j hj => ?_)
  unfold cpI
  split
  · exact h.g r1 w1 _ h1
  · exact h r2 w2 j hj
theorem zz_cat {av : List Value} (h : av.all (fun v => Nat.beq v.category 1) = true) : ∀ v ∈ av, v.category = 1 := fun v hv => Nat.eq_of_beq_eq_true (List.all_eq_true.mp h v hv)
theorem Kz.drop (i : Nat) {L' : List (Option Value)} (hl : L.set i none = L') (kk : Kz X G P V L' pc st) : Kz X G P V L pc st := by
  subst hl
  refine Kz.sub (by rw [List.length_set]) (fun j v h => ?_) kk
  rw [List.getElem?_set] at h
  split at h
  · split at h <;> cases h
  · exact h
theorem z_dtI {F : Int} {P2 : Nat → Nat} {V2 : Vt} (kk : Kz X G P2 V2 L pc (.int (iI F) :: st)) : ∀ (r : Int) (P' : Nat → Nat) (V' : Vt), dt F P2 V2 r P' V' → Kz X G P' V' L pc ((mkI r).toList ++ st) := by
  rintro r P' V' ⟨rfl, rfl, rfl⟩; exact kk
theorem z_dtV {F : Int} {P2 : Nat → Nat} {V2 : Vt} (kk : Kz X G P2 V2 L pc st) : ∀ (r : Int) (P' : Nat → Nat) (V' : Vt), dt F P2 V2 r P' V' → Kz X G P' V' L pc ((mkV r).toList ++ st) := by
  rintro r P' V' ⟨rfl, rfl, rfl⟩; exact kk
theorem z_exI {pst : Int → (Nat → Nat) → Vt → Prop} (kk : ∀ (r : Int) (P' : Nat → Nat) (V' : Vt), pst r P' V' → Kz X G P' V' L pc (.int (iI r) :: st)) : ∀ (r : Int) (P' : Nat → Nat) (V' : Vt), pst r P' V' → Kz X G P' V' L pc ((mkI r).toList ++ st) := kk
theorem z_exR {pst : Int → (Nat → Nat) → Vt → Prop} (kk : ∀ (r : Int) (P' : Nat → Nat) (V' : Vt), pst r P' V' → Kz X G P' V' L pc (.ref (ad G 0 r.toNat) :: st)) : ∀ (r : Int) (P' : Nat → Nat) (V' : Vt), pst r P' V' → Kz X G P' V' L pc ((mkR G r).toList ++ st) := kk
theorem z_exV {pst : (Nat → Nat) → Vt → Prop} (kk : ∀ (P' : Nat → Nat) (V' : Vt), pst P' V' → Kz X G P' V' L pc st) : ∀ (r : Int) (P' : Nat → Nat) (V' : Vt), pst P' V' → Kz X G P' V' L pc ((mkV r).toList ++ st) := fun _ P' V' h => kk P' V' h
theorem z_ifeq_b (E : Ev X l0 G R0 cc nL Ts own ret mk post) {q : Prop} {off : Int} (tgt : Nat) (hdg : decode cc pc = .ok (.ifCond .eq off, 3)) (ht : (pc : Int) + off = (tgt : Int)) (kt : ¬ q → Kz X G P V L tgt st) (kf : q → Kz X G P V L (pc + 3) st) : Kz X G P V L pc (.int (iI (b2i q)) :: st) :=
  z_if_eq E tgt hdg ht (by have := b2i_b q; omega) (fun h => kt (b2i_eq0.mp h)) (fun h => kf (Classical.byContradiction fun z => h (b2i_f z)))
theorem z_ifne_b (E : Ev X l0 G R0 cc nL Ts own ret mk post) {q : Prop} {off : Int} (tgt : Nat) (hdg : decode cc pc = .ok (.ifCond .ne off, 3)) (ht : (pc : Int) + off = (tgt : Int)) (kt : q → Kz X G P V L tgt st) (kf : ¬ q → Kz X G P V L (pc + 3) st) : Kz X G P V L pc (.int (iI (b2i q)) :: st) :=
  z_if_ne E tgt hdg ht (by have := b2i_b q; omega) (fun h => kt (Classical.byContradiction fun z => h (b2i_f z))) (fun h => kf (b2i_eq0.mp h))
theorem nst_X0_31 {U : State} (h : Nst U) : va_Nw (.methodLinkNest RX0 31 yX5_isIndex "SharedStates") U := h.1
theorem nst_X3_41 {U : State} (h : Nst U) : va_Nw (.methodLinkNest RX3 41 yX5_isIndex "SharedStates") U := h.2.1
theorem nst_X4_52 {U : State} (h : Nst U) : va_Nw (.methodLinkNest RX4 52 yX5_isIndex "SharedStates") U := h.2.2.1
theorem nst_X4_98 {U : State} (h : Nst U) : va_Nw (.methodLinkNest RX4 98 yX5_isRange "SharedStates") U := h.2.2.2
theorem z_acopy (E : Ev X l0 G R0 cc nL Ts own ret mk post) {index : Nat} (f0 : Cond.methodLink own index arraycopyName ∈ Ts) (f1 : Cond.native arraycopyName ∈ Ts) (f2 : Cond.static arraycopyName ∈ Ts) (f3 : Cond.initialized "java/lang/System" ∈ Ts) {r1 w1 r2 w2 : Nat} (hv1 : vl r1 w1 = true) (hv2 : vl r2 w2 = true) (n1 : Nat) (hn1 : n1 ≤ 100000) (n2 : Nat) (hn2 : n2 ≤ 100000) (he1 : ∀ f : Int → Int, cE G P f r1 w1 = aE G n1 f) (he2 : ∀ f : Int → Int, cE G P f r2 w2 = aE G n2 f) {sp dp n : Int} (h1 : 0 ≤ sp) (h2 : 0 ≤ dp) (h3 : 0 ≤ n) (h4 : sp + n ≤ n1) (h5 : dp + n ≤ n2)
    (hfr : 1 ≤ R0.frames) (hlo : (st.map fun v => v.category).sum + (nativeFrameWords "java/lang/System" "arraycopy" 5 + 11) ≤ R0.locals) (hnl : nL = L.length) (hdg : decode cc pc = .ok (.invokestatic index, 3))
    (kk : Kz X G P (up V r2 w2 (cpI (V r1 w1) (V r2 w2) sp dp n)) L (pc + 3) st) : Kz X G P V L pc (.int (iI n) :: .int (iI dp) :: .ref (ad G r2 w2) :: .int (iI sp) :: .ref (ad G r1 w1) :: st) := by
  obtain ⟨p, l, e, R, s, m, args, below, meth, c, Q⟩ := X
  intro H locs ls hP hS hL
  have c1 : (iI sp).toNatClampNeg = sp.toNat := iI_clamp h1 (by omega)
  have c2 : (iI dp).toNatClampNeg = dp.toNat := iI_clamp h2 (by omega)
  have c3 : (iI n).toNatClampNeg = n.toNat := iI_clamp h3 (by omega)
  have nn : ∀ x : Int, 0 ≤ x → x ≤ 100000 → ¬ iI x < 0 := fun x a b => by rw [iI_0, iI_lt (by omega) (by omega)]; omega
  obtain ⟨E1, hK, hG, -, -, rfl, rfl, -⟩ := E
  refine va_copyi (ty := .int) (f := fun j : Nat => iI (V r1 w1 (j : Int))) (g := fun j : Nat => iI (V r2 w2 (j : Int))) E1.1 E1.2.1 (by rw [E1.2.2.1, hL.1, hnl]) E1.2.2.2.1 (E1.2.2.2.2 _ f0) (E1.2.2.2.2 _ f1) (E1.2.2.2.2 _ f2) (E1.2.2.2.2 _ f3) hK.1 hP (WL_D hG) hS (psn r1 w1) (psn r2 w2) 0 0 (by rw [WL_at hv1, he1]; rfl) (by rw [WL_at hv2, he2]; rfl) rfl rfl rfl (nn _ h1 (by omega)) (nn _ h2 (by omega)) (nn _ h3 (by omega)) (by rw [c1, c3]; omega) (by rw [c2, c3]; omega) (fun _ _ => rfl) hfr hlo hdg (fun H1 locs1 hP1 _ hS1 => ?_)
  have hset : (.inl (gI G, n2, .inl (va_cpy (fun j : Nat => iI (V r1 w1 (j : Int))) (fun j : Nat => iI (V r2 w2 (j : Int))) (iI sp).toNatClampNeg (iI dp).toNatClampNeg (iI n).toNatClampNeg)) : va_E) = aE G n2 (cpI (V r1 w1) (V r2 w2) sp dp n) := by
    unfold aE
    congr 4
    funext j
    rw [c1, c2, c3]
    unfold va_cpy cpI
    by_cases hj : dp.toNat ≤ j ∧ j < dp.toNat + n.toNat
    · rw [if_pos hj, if_pos (by omega)]; dsimp only; rw [show ((sp.toNat + (j - dp.toNat) : Nat) : Int) = sp + ((j : Int) - dp) by omega]
    · rw [if_neg hj, if_neg (by omega)]
  rw [hset, WL_set (P' := P) (V' := up V r2 w2 (cpI (V r1 w1) (V r2 w2) sp dp n)) hv2 (by rw [up_s]; exact he2 _) (fun r' w' _ hne => by rw [up_o hne])] at hP1
  exact kk H1 locs1 ls hP1 hS1 hL
theorem arrV_congr {cA : ClassId} {n : Nat} {z z' : Nat → Value} (h : ∀ j, j < n → z j = z' j) : arrV cA n z = arrV cA n z' := by
  unfold arrV
  congr 1
  apply Array.ext
  · simp
  · intro i h1 h2
    simp at h1 ⊢
    exact h i (by omega)
theorem aE_congr {G : Gl} {D : va_G} {cl : List vw_C} {a n : Nat} {f g : Int → Int} {H : Heap} (h : ∀ j : Int, 0 ≤ j → j < n → f j = g j) (hP : va_at D cl (a, aE G n f) H) : va_at D cl (a, aE G n g) H := by
  show H[a]? = some (vp_cell _ _)
  have hP : H[a]? = some (vp_cell (gI G) (n, .inl (fun j : Nat => iI (f (j : Int))))) := hP
  rw [hP, vp_cell_i, vp_cell_i, arrV_congr (z' := fun j : Nat => .int (iI (g (j : Int)))) (fun j hj => by rw [h j (by omega) (by omega)])]
theorem WL_row {D : va_G} {cl : List vw_C} {V V' : Vt} {r w n : Nat} {H : Heap} (hv : vl r w = true) (he : ∀ f : Int → Int, cE G P f r w = aE G n f) (ho : ∀ r' w', ¬ (r' = r ∧ w' = w) → V' r' w' = V r' w') (h : ∀ j : Int, 0 ≤ j → j < n → V r w j = V' r w j) (hP : va_P D cl (WL G P V) H) : va_P D cl (WL G P V') H := by
  intro k q hq
  simp only [WL, List.getElem?_map] at hq
  cases hp : prs[k]? with
  | none => rw [hp] at hq; cases hq
  | some z =>
    obtain ⟨r', w'⟩ := z
    rw [hp] at hq
    cases hq
    have hi := prs_inv hp
    have h0 := hP k (ad G r' w', cE G P (V r' w') r' w') (by simp [WL, List.getElem?_map, hp])
    by_cases hz : r' = r ∧ w' = w
    · obtain ⟨rfl, rfl⟩ := hz
      rw [he] at h0
      show va_at D cl (ad G r' w', cE G P (V' r' w') r' w') H
      rw [he]
      exact aE_congr h h0
    · show va_at D cl (ad G r' w', cE G P (V' r' w') r' w') H
      rw [ho r' w' hz]; exact h0
/-- a row of numbers may be called otherwise beyond its length -/
theorem z_row {V' : Vt} {r w n : Nat} (hv : vl r w = true) (he : ∀ f : Int → Int, cE G P f r w = aE G n f) (ho : ∀ r' w', ¬ (r' = r ∧ w' = w) → V' r' w' = V r' w') (h : ∀ j : Int, 0 ≤ j → j < n → V r w j = V' r w j) (kk : Kz X G P V' L pc st) : Kz X G P V L pc st := by
  obtain ⟨p, l, e, R, s, m, args, below, meth, c, Q⟩ := X
  intro H locs ls hP hS hL
  exact kk H locs ls (WL_row hv he ho h hP) hS hL
theorem z_acopyF (E : Ev X l0 G R0 cc nL Ts own ret mk post) {index : Nat} (f0 : Cond.methodLink own index arraycopyName ∈ Ts) (f1 : Cond.native arraycopyName ∈ Ts) (f2 : Cond.static arraycopyName ∈ Ts) (f3 : Cond.initialized "java/lang/System" ∈ Ts) {r1 w1 r2 w2 : Nat} (hv1 : vl r1 w1 = true) (hv2 : vl r2 w2 = true) (n1 : Nat) (hn1 : n1 ≤ 100000) (n2 : Nat) (hn2 : n2 ≤ 100000) (he1 : ∀ f : Int → Int, cE G P f r1 w1 = aE G n1 f) (he2 : ∀ f : Int → Int, cE G P f r2 w2 = aE G n2 f) {n : Int} (h1 : n = n1) (h2 : n1 = n2)
    (hfr : 1 ≤ R0.frames) (hlo : (st.map fun v => v.category).sum + (nativeFrameWords "java/lang/System" "arraycopy" 5 + 11) ≤ R0.locals) (hnl : nL = L.length) (hdg : decode cc pc = .ok (.invokestatic index, 3))
    (kk : Kz X G P (up V r2 w2 (V r1 w1)) L (pc + 3) st) : Kz X G P V L pc (.int (iI n) :: .int (iI 0) :: .ref (ad G r2 w2) :: .int (iI 0) :: .ref (ad G r1 w1) :: st) := by
  refine z_acopy E f0 f1 f2 f3 hv1 hv2 n1 hn1 n2 hn2 he1 he2 (by omega) (by omega) (by omega) (by omega) (by omega) hfr hlo hnl hdg (z_row hv2 he2 (fun r' w' hz => by rw [up_o hz, up_o hz]) (fun j h0 h1' => ?_) kk)
  rw [up_s, up_s]
  unfold cpI
  rw [if_pos (by omega)]
  congr 1
  omega
theorem all_0 {p : Int → Prop} : ∀ j : Int, 0 ≤ j → j < 0 → p j := fun _ h0 h1 => by omega
theorem all_s {k : Int} {p : Int → Prop} (h : ∀ j : Int, 0 ≤ j → j < k → p j) (hk : p k) : ∀ j : Int, 0 ≤ j → j < k + 1 → p j := by
  intro j h0 h1
  rcases Int.lt_or_le j k with q | q
  · exact h j h0 q
  · rw [show j = k by omega]; exact hk
theorem smb_t {m k : Int} {p : Int → Prop} (h : m = sm k (fun j => b2i (p j))) (hk : 0 ≤ k) (hp : p k) : m + 1 = sm (k + 1) (fun j => b2i (p j)) := by
  rw [sm_s hk, ← h, b2i_t hp]
theorem smb_f {m k : Int} {p : Int → Prop} (h : m = sm k (fun j => b2i (p j))) (hk : 0 ≤ k) (hp : ¬ p k) : m + 0 = sm (k + 1) (fun j => b2i (p j)) := by
  rw [sm_s hk, ← h, b2i_f hp]
theorem smb_f0 {m k : Int} {p : Int → Prop} (h : m = sm k (fun j => b2i (p j))) (hk : 0 ≤ k) (hp : ¬ p k) : m = sm (k + 1) (fun j => b2i (p j)) := by
  have := smb_f h hk hp; omega
/-- a set of 0 .. n-1 as bits -/
noncomputable def bits (n : Int) (p : Int → Prop) : Int := sm n (fun i => b2i (p i) * 2 ^ i.toNat)
theorem bits_0 {p : Int → Prop} : bits 0 p = 0 := sm_0 (by omega)
theorem bits_t {m k : Int} {p : Int → Prop} (h : m = bits k p) (hk : 0 ≤ k) (hp : p k) : m + 2 ^ k.toNat = bits (k + 1) p := by
  unfold bits; rw [sm_s hk, b2i_t hp, Int.one_mul, h]; rfl
theorem bits_f {m k : Int} {p : Int → Prop} (h : m = bits k p) (hk : 0 ≤ k) (hp : ¬ p k) : m = bits (k + 1) p := by
  unfold bits; rw [sm_s hk, b2i_f hp, Int.zero_mul, h, Int.add_zero]; rfl
theorem bits_bdN (p : Int → Prop) : ∀ n : Nat, 0 ≤ bits n p ∧ bits n p < 2 ^ n
  | 0 => by rw [show ((0 : Nat) : Int) = 0 from rfl, bits_0]; decide
  | n + 1 => by
    have ih := bits_bdN p n
    have e : (2 : Int) ^ (n + 1) = 2 ^ n + 2 ^ n := by rw [Int.pow_succ]; omega
    rw [e, show ((n + 1 : Nat) : Int) = (n : Int) + 1 from rfl]
    by_cases hp : p n
    · rw [← bits_t rfl (by omega) hp, Int.toNat_natCast]; omega
    · rw [← bits_f rfl (by omega) hp]; omega
theorem bits_bd (p : Int → Prop) {n : Int} (h : 0 ≤ n) : 0 ≤ bits n p ∧ bits n p < 2 ^ n.toNat := by
  have := bits_bdN p n.toNat
  rw [Int.toNat_of_nonneg h] at this
  exact this
theorem bits_congr {n : Int} {p q : Int → Prop} (h : ∀ j : Int, 0 ≤ j → j < n → (p j ↔ q j)) : bits n p = bits n q := sm_congr (fun j h0 h1 => by rw [b2i_iff (h j h0 h1)])
/-- eight numbers are the same -/
def eq8 (f g : Int → Int) (a b : Int) : Prop := ∀ i, 0 ≤ i → i < 8 → f (a + i) = g (b + i)
/-- the number, or NOT_FOUND -/
def fO (x : Int) : Int := if 0 ≤ x then x else -1000004
theorem fO_t {x : Int} (h : 0 ≤ x) : fO x = x := if_pos h
theorem fO_f {x : Int} (h : x < 0) : fO x = -1000004 := if_neg (by omega)
def nO (n : Int) (f : Int → Int) (k : Int) : Int := if 0 ≤ k ∧ k < n then f k else -1
theorem nO_t {n k : Int} {f : Int → Int} (h0 : 0 ≤ k) (h1 : k < n) : nO n f k = f k := if_pos ⟨h0, h1⟩
theorem nO_f {n k : Int} {f : Int → Int} (h : ¬ (0 ≤ k ∧ k < n)) : nO n f k = -1 := if_neg h
theorem smN_z {f : Int → Int} : ∀ n : Nat, (∀ j : Int, 0 ≤ j → j < n → f j = 0) → smN f n = 0
  | 0, _ => rfl
  | n + 1, h => by
    show smN f n + f n = 0
    rw [smN_z n (fun j h0 h1 => h j h0 (by omega)), h n (by omega) (by omega)]; rfl
theorem sm_z {n : Int} {f : Int → Int} (h : ∀ j : Int, 0 ≤ j → j < n → f j = 0) : sm n f = 0 := smN_z _ (fun j h0 h1 => h j h0 (by omega))
/-- the slot of a slot's parent -/
noncomputable def pS (n : Int) (num par : Int → Int) (k : Int) : Int := fnd n (fun j => num j = par k)
/-- steps down a chain until 0 or below -/
def itS (f : Int → Int) : Nat → Int → Int
  | 0, _ => 0
  | n + 1, x => if 0 < x then 1 + itS f n (f x) else 0
theorem itS_s {f : Int → Int} {n : Nat} {x : Int} (h : 0 < x) : itS f (n + 1) x = 1 + itS f n (f x) := if_pos h
theorem itS_0 {f : Int → Int} {n : Nat} {x : Int} (h : x ≤ 0) : itS f n x = 0 := by
  cases n with
  | zero => rfl
  | succ n => exact if_neg (by omega)
/-- the higher one goes down until both meet -/
def cmS (f : Int → Int) : Nat → Int → Int → Int
  | 0, a, _ => a
  | n + 1, a, b => if a = b then a else if b < a then cmS f n (f a) b else cmS f n a (f b)
theorem cmS_e {f : Int → Int} {n : Nat} {a b : Int} (h : a = b) : cmS f n a b = a := by
  cases n with
  | zero => rfl
  | succ n => exact if_pos h
theorem cmS_g {f : Int → Int} {n : Nat} {a b : Int} (h : b < a) : cmS f (n + 1) a b = cmS f n (f a) b := by
  show (if a = b then a else if b < a then cmS f n (f a) b else cmS f n a (f b)) = _
  rw [if_neg (by omega), if_pos h]
theorem cmS_l {f : Int → Int} {n : Nat} {a b : Int} (h : a ≤ b) (h2 : ¬ a = b) : cmS f (n + 1) a b = cmS f n a (f b) := by
  show (if a = b then a else if b < a then cmS f n (f a) b else cmS f n a (f b)) = _
  rw [if_neg h2, if_neg (by omega)]
theorem up_self {V : Vt} {r w : Nat} : up V r w (V r w) = V := by
  funext r' w'
  by_cases h : r' = r ∧ w' = w
  · obtain ⟨rfl, rfl⟩ := h; rw [up_s]
  · rw [up_o h]
theorem upup (V : Vt) (r w : Nat) (g g' : Int → Int) : up (up V r w g) r w g' = up V r w g' := by
  funext r' w'
  by_cases h : r' = r ∧ w' = w
  · obtain ⟨rfl, rfl⟩ := h; rw [up_s, up_s]
  · rw [up_o h, up_o h, up_o h]
theorem up_comm (V : Vt) (r r' w w' : Nat) (g g' : Int → Int) (h : ¬ (r = r' ∧ w = w')) : up (up V r w g) r' w' g' = up (up V r' w' g') r w g := by
  funext a b
  by_cases h1 : a = r ∧ b = w
  · obtain ⟨rfl, rfl⟩ := h1; rw [up_o h, up_s, up_s]
  · by_cases h2 : a = r' ∧ b = w'
    · obtain ⟨rfl, rfl⟩ := h2; rw [up_s, up_o h1, up_s]
    · rw [up_o h2, up_o h1, up_o h1, up_o h2]
/-- the parents, those below c whose parent is that of a slot already put over -/
def reP (par num : Int → Int) (slot c : Int) : Int → Int := fun j => if slot < j ∧ j < c ∧ par j = num slot then par slot else par j
theorem reP_0 {par num : Int → Int} {slot : Int} : reP par num slot (slot + 1) = par := by
  funext j; exact if_neg (by omega)
theorem reP_t {par num : Int → Int} {slot c : Int} (h : slot < c) (hp : par c = num slot) : updI (reP par num slot c) c (par slot) = reP par num slot (c + 1) := by
  funext j
  unfold updI reP
  by_cases hj : j = c
  · subst hj; rw [if_pos rfl, if_pos ⟨h, by omega, hp⟩]
  · rw [if_neg hj]
    by_cases h2 : slot < j ∧ j < c ∧ par j = num slot
    · rw [if_pos h2, if_pos ⟨h2.1, by omega, h2.2.2⟩]
    · rw [if_neg h2, if_neg (fun z => h2 ⟨z.1, by omega, z.2.2⟩)]
theorem reP_f {par num : Int → Int} {slot c : Int} (hp : ¬ par c = num slot) : reP par num slot c = reP par num slot (c + 1) := by
  funext j
  unfold reP
  by_cases hj : j = c
  · subst hj; rw [if_neg (by omega), if_neg (fun z => hp z.2.2)]
  · by_cases h2 : slot < j ∧ j < c ∧ par j = num slot
    · rw [if_pos h2, if_pos ⟨h2.1, by omega, h2.2.2⟩]
    · rw [if_neg h2, if_neg (fun z => h2 ⟨z.1, by omega, z.2.2⟩)]
/-- a row of an object's numbers may be called otherwise where the object does not hold them -/
theorem z_objrow {r w : Nat} (g : Int → Int) (he : cE G P g r w = cE G P (V r w) r w) (kk : Kz X G P (up V r w g) L pc st) : Kz X G P V L pc st := by
  obtain ⟨p, l, e, R, s, m, args, below, meth, c, Q⟩ := X
  intro H locs ls hP hS hL
  refine kk H locs ls ?_ hS hL
  have e : WL G P V = WL G P (up V r w g) := by
    unfold WL
    refine List.map_congr_left (fun q _ => ?_)
    by_cases h : q.1 = r ∧ q.2 = w
    · obtain ⟨h1, h2⟩ := h
      rw [h1, h2, up_s, he]
    · rw [up_o h]
  rw [← e]; exact hP
end SP
