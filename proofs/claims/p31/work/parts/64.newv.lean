/-! ===== a row of cells is made ===== -/
theorem prs_23 : prsB true = prsB false ++ [(23, 0)] := by decide +kernel
theorem prs_lt : ∀ q ∈ prsB false, q.1 < 23 := by decide +kernel
/-- the picture with a row of cells at hand put in -/
def Gv (G : Gl) (q : Nat) : Gl := (G.1, fun r w => if r = 23 then q else ad G r w, gI G, gW G, gL G, true)
theorem Gv_ad {G : Gl} {q r w : Nat} (h : r ≠ 23) : ad (Gv G q) r w = ad G r w := if_neg h
theorem Gv_cE {G : Gl} {q : Nat} {P : Nat → Nat} {f : Int → Int} {r w : Nat} (h : r < 23) : cE (Gv G q) P f r w = cE G P f r w := by
  rcases (show r = 0 ∨ r = 1 ∨ r = 2 ∨ r = 3 ∨ r = 4 ∨ r = 5 ∨ r = 6 ∨ r = 7 ∨ r = 8 ∨ r = 9 ∨ r = 10 ∨ r = 11 ∨ r = 12 ∨ r = 13 ∨ r = 14 ∨ r = 15 ∨ r = 16 ∨ r = 17 ∨ r = 18 ∨ r = 19 ∨ r = 20 ∨ r = 21 ∨ r = 22 by omega) with rfl | rfl | rfl | rfl | rfl | rfl | rfl | rfl | rfl | rfl | rfl | rfl | rfl | rfl | rfl | rfl | rfl | rfl | rfl | rfl | rfl | rfl | rfl
  all_goals rfl
theorem Gv_WL {G : Gl} {q : Nat} {P : Nat → Nat} {V : Vt} (hf : fv G = false) : WL (Gv G q) P V = WL G P V ++ [(q, aE G 48 (V 23 0))] := by
  have e1 : prs (Gv G q) = prsB false ++ [(23, 0)] := prs_23
  have e2 : prs G = prsB false := by show prsB (fv G) = _; rw [hf]
  unfold WL
  rw [e1, e2, List.map_append]
  have e3 : (prsB false).map (fun x => (ad (Gv G q) x.1 x.2, cE (Gv G q) P (V x.1 x.2) x.1 x.2)) = (prsB false).map (fun x => (ad G x.1 x.2, cE G P (V x.1 x.2) x.1 x.2)) := by
    refine List.map_congr_left (fun x hx => ?_)
    have hl := prs_lt x hx
    rw [Gv_ad (by omega), Gv_cE hl]
  rw [e3]
  rfl
theorem WL_23 {G : Gl} {P : Nat → Nat} {V V' : Vt} (hf : fv G = false) (h : ∀ r, r ≠ 23 → V' r = V r) : WL G P V' = WL G P V := by
  have e2 : prs G = prsB false := by show prsB (fv G) = _; rw [hf]
  unfold WL
  rw [e2]
  refine List.map_congr_left (fun x hx => ?_)
  have hl := prs_lt x hx
  rw [h x.1 (by omega)]
section NV
variable {X : Cx} {l0 : Launch} {G : Gl} {R0 : Room} {cc : ByteArray} {nL : Nat} {Ts : List Cond} {own : String} {ret : Option FieldType} {mk : Int → Option Value} {post : Int → (Nat → Nat) → Vt → Prop} {P : Nat → Nat} {V : Vt} {uc us mt mst : Nat} {L : List (Option Value)} {pc : Nat} {st : List Value}
theorem z_newv (E : Ev X l0 G R0 cc nL Ts own) (Er0 : Er X G mt mst ret mk post) (hEa : Ea X) (hf : fv G = false) (f0 : Cond.arrayClass .int ∈ Ts) (hN : uc + 1 ≤ R0.cells ∧ us + 48 ≤ R0.slots) (hdg : decode cc pc = .ok (.newarray .int, 2))
    (kk : ∀ G' : Gl, (∀ r w, r ≠ 23 → ad G' r w = ad G r w) → fv G' = true → Ev X l0 G' R0 cc nL Ts own → Er X G' mt mst ret mk post → Kz X G' P (up V 23 0 (fun _ => 0)) (uc + 1) (us + 48) L (pc + 2) (.ref (ad G' 23 0) :: st)) : Kz X G P V uc us L pc (.int (iI 48) :: st) := by
  obtain ⟨p, l, e, R, s, m, args, below, meth, c, Q, A⟩ := X
  intro H locs ls hP hS hL
  obtain ⟨E1, hK, hG, rfl, rfl, hA⟩ := id E
  refine va_newa (atype := .int) (ty := .int) (a0 := (48, .inl (fun _ => 0))) E1.1 E1.2.1 (E1.2.2.2.2 _ f0) rfl hK.1 hP (WL_DA hG hA) hS hEa (fun cA => by rw [vp_cell_i]; rfl) (by rw [iI_0, iI_lt (by omega) (by omega)]; omega) (by rw [iI_clamp (by omega) (by omega)]; rfl) (by show 48 * 4 ≤ _; omega) hN.1 hN.2 hdg (fun q cA H1 hK1 hP1 hD1 hS1 => ?_)
  have z1 : va_RA s cA .int := (hK1.2 3 (cA, .int) rfl).2
  have z2 : va_RA s (gI G) .int := (hK.1.2 0 (gI G, .int) rfl).2
  have ec : cA = gI G := Option.some.inj (z1.symm.trans z2)
  subst ec
  have eW : WL (Gv G q) P (up V 23 0 (fun _ => 0)) = WL G P V ++ [(q, .inl (gI G, 48, .inl (fun _ => 0)))] := by
    rw [Gv_WL hf, up_s, WL_23 hf (fun r hr => up_r hr)]
    rfl
  have hq : A q := hD1.2 (WL G P V).length (q, .inl (gI G, 48, .inl (fun _ => 0))) (by rw [List.getElem?_append_right (Nat.le_refl _)]; simp)
  have hne : ∀ r w, vl G r w = true → ad G r w ≠ q := by
    intro r w h h2
    have h3 := WL_at (P := P) (V := V) h
    have hl : psn r w < (WL G P V).length := (List.getElem?_eq_some_iff.mp h3).1
    have := hD1.1 (psn r w) (WL G P V).length (ad G r w, cE G P (V r w) r w) (q, .inl (gI G, 48, .inl (fun _ => 0))) (by rw [List.getElem?_append_left hl]; exact h3) (by rw [List.getElem?_append_right (Nat.le_refl _)]; simp) h2
    omega
  have hvl : ∀ r w, vl (Gv G q) r w = true → r ≠ 23 → vl G r w = true := by
    intro r w h h2
    have := vlB_c h
    show vlB (fv G) r w = true
    rw [hf]
    unfold vlB
    simp only [Bool.or_eq_true, Bool.and_eq_true, Nat.blt_eq, Nat.ble_eq, Nat.beq_eq]
    omega
  have hw0 : ∀ r w, vl (Gv G q) r w = true → r = 23 → w = 0 := by
    intro r w h h2
    have := vlB_c h
    omega
  have hG' : Gok (Gv G q) := by
    intro r w r' w' h1 h2 h3
    by_cases a : r = 23
    · by_cases b : r' = 23
      · rw [hw0 r w h1 a, hw0 r' w' h2 b]; exact ⟨a.trans b.symm, rfl⟩
      · rw [Gv_ad b] at h3
        exact absurd h3.symm (by subst a; exact hne r' w' (hvl r' w' h2 b))
    · by_cases b : r' = 23
      · rw [Gv_ad a] at h3
        exact absurd h3 (by subst b; exact hne r w (hvl r w h1 a))
      · rw [Gv_ad a, Gv_ad b] at h3
        exact hG r w r' w' (hvl r w h1 a) (hvl r' w' h2 b) h3
  have hA' : ∀ x, mem (Gv G q) x → A x := by
    rintro x ⟨r, w, h1, h2⟩
    by_cases a : r = 23
    · subst a; rw [h2]; exact hq
    · rw [h2, Gv_ad a]; exact hA _ ⟨r, w, hvl r w h1 a, rfl⟩
  have E' : Ev (p, l, e, R, s, m, args, below, meth, c, Q, A) l (Gv G q) R cc nL Ts own := ⟨E1, hK, hG', rfl, rfl, hA'⟩
  have Er' : Er (p, l, e, R, s, m, args, below, meth, c, Q, A) (Gv G q) mt mst ret mk post := by
    obtain ⟨G0, a, b, cq, d, f⟩ := Er0
    refine ⟨G0, a, b, cq, d, fun P V H h => f P V H ?_⟩
    intro k x hx
    have hl : k < (WL G P V).length := (List.getElem?_eq_some_iff.mp hx).1
    exact h k x (by rw [Gv_WL hf, List.getElem?_append_left hl]; exact hx)
  refine kk (Gv G q) (fun r w h => Gv_ad h) rfl E' Er' H1 locs ls ?_ hS1 hL
  rw [eW]; exact hP1
end NV
/-! ===== what a try to write gives ===== -/
/-- a branch is there -/
def HBr (s : Int → Int) : Prop := ∃ b, 0 ≤ b ∧ b < 4 ∧ 0 ≤ mh s b
/-- a branch is sought, round and round -/
def LpB (h : Int → Int) (b0 i br : Int) : Prop := 0 ≤ h br ∨ (br = (b0 + i) % 4 ∧ ∀ j, 0 ≤ j → j < i → h ((b0 + j) % 4) < 0)
theorem LpB_0 {h : Int → Int} {b0 : Int} (a : 0 ≤ b0) (b : b0 < 4) : LpB h b0 0 b0 := Or.inr ⟨by omega, fun j j0 j1 => by omega⟩
theorem LpB_f {h : Int → Int} {b0 i br : Int} (i0 : 0 ≤ i) (a : 0 ≤ b0) (b : b0 < 4) (g : LpB h b0 i br) (hb : h br < 0) : LpB h b0 (i + 1) ((br + 1) % 4) := by
  rcases g with g | ⟨e, g⟩
  · omega
  · refine Or.inr ⟨by omega, fun j j0 j1 => ?_⟩
    rcases Int.lt_or_le j i with q | q
    · exact g j j0 q
    · rw [show j = i by omega, ← e]; exact hb
theorem LpB_t {h : Int → Int} {b0 i br : Int} (hb : 0 ≤ h br) : LpB h b0 (i + 1) br := Or.inl hb
theorem LpB_e {V : Vt} {s : Int → Int} {b0 br : Int} (hN : LN V s) (hH : HBr s) (a : 0 ≤ b0) (b : b0 < 4) (g : LpB (V 17 0) b0 4 br) : 0 ≤ V 17 0 br := by
  rcases g with g | ⟨e, g⟩
  · exact g
  · obtain ⟨d, d0, d1, hd⟩ := hH
    rw [← hN.h d d0 d1] at hd
    have := g ((d - b0) % 4) (by omega) (by omega)
    rw [show (b0 + (d - b0) % 4) % 4 = d by omega] at this
    omega
theorem trS_1 {s ce s' : Int → Int} {b r : Int} (hM : MV s) (b0 : 0 ≤ b) (b1 : b < 4) (hh : 0 ≤ mh s b) (hH : HBr s) (g : trS s ce b r s') : HBr s' ∧ s' 1 ≤ s 1 + 1 ∧ (r < 0 → r = -1000003) := by
  have h1 := (trS_MV hM b0 b1 hh g).2
  rcases g with ⟨_, e, rfl⟩ | ⟨a, e, s6, c, rfl⟩
  · exact ⟨hH, h1, fun _ => e⟩
  · have hW : WB s b := ⟨hM, a.1, b0, b1, hh⟩
    obtain ⟨o0, o1, o4, o5, ob, oh, -⟩ := wr_out hW c
    have := hM.s1
    exact ⟨⟨b, b0, b1, by omega⟩, h1, fun z => by omega⟩
theorem t_fi {s ce s' s9 : Int → Int} {b c m v r ra : Int} (hM : MV s) (b0 : 0 ≤ b) (b1 : b < 4) (hh : 0 ≤ mh s b) (hH : HBr s) (hc : 0 ≤ c ∧ c ≤ 47) (hm : 1 ≤ m ∧ m ≤ 48 - c) (hv : 0 ≤ v ∧ v ≤ 999) (q : qFi s b c m v r s') (ht : trS s ce b ra s9) (hce : ∀ i, 0 ≤ i → i < 48 → ce i = flI (fun c => mc s (mS s (mh s b)) c) c m v i) : r = ra ∧ s' = s9 ∧ HBr s9 ∧ s9 1 ≤ s 1 + 1 ∧ (ra < 0 → ra = -1000003) := by
  rcases q with ⟨z, _⟩ | ⟨_, q⟩
  · exact absurd ⟨⟨b0, by omega, hh⟩, ⟨hc, hm⟩, hv⟩ z
  · have d := trS_det q (trS_ce hce ht)
    have k := trS_1 hM b0 b1 hh hH ht
    exact ⟨d.1, d.2, k.1, k.2.1, k.2.2⟩
theorem t_co {s ce s' s9 : Int → Int} {b x c d m r ra : Int} (hM : MV s) (b0 : 0 ≤ b) (b1 : b < 4) (hh : 0 ≤ mh s b) (hH : HBr s) (hx : 0 ≤ mS s x) (hc : 0 ≤ c ∧ c ≤ 47) (hm : 1 ≤ m ∧ m ≤ 48 - c) (hd : 0 ≤ d ∧ d ≤ 47) (hm2 : m ≤ 48 - d) (q : qCo s b x c d m r s') (ht : trS s ce b ra s9) (hce : ∀ i, 0 ≤ i → i < 48 → ce i = cpI (fun c => mc s (mS s x) c) (fun c => mc s (mS s (mh s b)) c) c d m i) : r = ra ∧ s' = s9 ∧ HBr s9 ∧ s9 1 ≤ s 1 + 1 ∧ (ra < 0 → ra = -1000003) := by
  rcases q with ⟨z, _⟩ | ⟨_, q⟩
  · exact absurd ⟨⟨b0, by omega, hh⟩, fO_nn.mpr hx, ⟨hc, hm⟩, hd, hm.1, hm2⟩ z
  · have d := trS_det q (trS_ce hce ht)
    have k := trS_1 hM b0 b1 hh hH ht
    exact ⟨d.1, d.2, k.1, k.2.1, k.2.2⟩
theorem HBr_4 {s : Int → Int} {x : Int} (h : HBr s) : HBr (updI s 4 x) := by
  obtain ⟨b, b0, b1, hb⟩ := h
  refine ⟨b, b0, b1, ?_⟩
  show 0 ≤ updI s 4 x (6 + b)
  rw [updI_n (by omega)]; exact hb
theorem t_me {s ce s' s9 : Int → Int} {b x r ra : Int} (hM : MV s) (b0 : 0 ≤ b) (b1 : b < 4) (hh : 0 ≤ mh s b) (hH : HBr s) (hx : 0 ≤ mS s x) (q : qMe s b x r s') (ht : trS s ce b ra s9) (hce : ∀ i, 0 ≤ i → i < 48 → ce i = mgF s b x i) : HBr s9 ∧ s9 1 ≤ s 1 + 1 ∧ ((ra = -1000003 ∧ r = -1000003 ∧ s' = s9) ∨ (0 ≤ ra ∧ r = mgN s b x ∧ s' = updI s9 4 (s9 4 + mgN s b x))) := by
  have k := trS_1 hM b0 b1 hh hH ht
  refine ⟨k.1, k.2.1, ?_⟩
  rcases q with ⟨z, _⟩ | ⟨_, ra', sa, q, g⟩
  · exact absurd ⟨⟨b0, by omega, hh⟩, fO_nn.mpr hx⟩ z
  · have d := trS_det q (trS_ce hce ht)
    obtain ⟨rfl, rfl⟩ := d
    rcases g with ⟨a, e, f⟩ | ⟨a, e, f⟩
    · have := k.2.2 a
      exact Or.inl ⟨this, by omega, f⟩
    · exact Or.inr ⟨a, e, by rw [f, e]⟩
/-- another count of conflicts -/
theorem LN_4 {V V' : Vt} {s : Int → Int} {x : Int} (h : LN V s) (e16 : V' 16 0 = updI (V 16 0) 4 x) (e : ∀ r, 17 ≤ r → r ≤ 22 → V' r 0 = V r 0) : LN V' (updI s 4 x) := by
  have w : ∀ j, j ≠ 4 → updI s 4 x j = s j := fun j hj => updI_n hj
  refine ⟨fun j j0 j1 => ?_, fun b b0 b1 => ?_, fun k k0 k1 => ?_, fun k p k0 k1 p0 p1 => ?_, fun d d0 d1 => ?_, by rw [e 20 (by omega) (by omega)]; exact h.vr, by rw [e 21 (by omega) (by omega)]; exact h.va, by rw [e 22 (by omega) (by omega)]; exact h.vb⟩
  · rw [e16]
    unfold updI
    split
    · rfl
    · exact h.g j j0 j1
  · rw [e 17 (by omega) (by omega), h.h b b0 b1]
    exact (w _ (by omega)).symm
  · rw [w 0 (by omega)] at k1
    rw [e 18 (by omega) (by omega), e 19 (by omega) (by omega)]
    have := h.n k k0 k1
    exact ⟨this.1.trans (w _ (by omega)).symm, this.2.trans (w _ (by omega)).symm⟩
  · rw [w 0 (by omega)] at k1
    rw [e 20 (by omega) (by omega), h.r k p k0 k1 p0 p1]
    exact (w _ (by omega)).symm
  · rw [e 21 (by omega) (by omega), e 22 (by omega) (by omega)]
    have q1 : mf (updI s 4 x) d = mf s d := w _ (by omega)
    have q2 : ∀ c, 0 ≤ c → mb (updI s 4 x) d c = mb s d c := fun c c0 => w _ (by omega)
    rw [q1]
    rcases h.b d d0 d1 with ⟨a, b, c⟩ | z
    · exact Or.inl ⟨a, b, fun c' c0 c1 => by rw [q2 c' c0]; exact c c' c0 c1⟩
    · exact Or.inr z
/-- a state that the law names is there -/
theorem LN.st {V : Vt} {s : Int → Int} (h : LN V s) (hM : MV s) {k : Int} (k0 : 0 ≤ k) (k1 : k < V 16 0 0) : 0 ≤ mS s (V 18 0 k) ∧ mS s (V 18 0 k) < s 0 ∧ 0 ≤ V 18 0 k ∧ V 18 0 k < s 1 ∧ mS s (V 18 0 k) = k := by
  have g0 := h.g0
  have n := h.n k k0 (by omega)
  have e := hM.i.slot k0 (show k < s 0 by omega)
  rw [n.1, e]
  have a := hM.i.nn (x := mo s k 0) (by rw [e]; exact k0)
  exact ⟨k0, by omega, a.1, hM.n k k0 (by omega), rfl⟩
theorem emod_in {x n : Int} (h : 0 < n) : 0 ≤ x % n ∧ x % n < n := ⟨Int.emod_nonneg _ (by omega), Int.emod_lt_of_pos _ h⟩
theorem vF_1 {g z : Int → Int} {a v i : Int} (i0 : 0 ≤ i) (i1 : i < 48) : updI (mix z g 48) a v i = flI g a 1 v i := by
  unfold updI flI
  by_cases h : i = a
  · rw [if_pos h, if_pos (by omega)]
  · rw [if_neg h, if_neg (by omega)]; exact mix_in i0 i1
theorem vF_m {g z : Int → Int} {a m v i : Int} (i0 : 0 ≤ i) (i1 : i < 48) : flI (mix z g 48) a m v i = flI g a m v i := by
  unfold flI
  split
  · rfl
  · exact mix_in i0 i1
theorem vC_m {f g z : Int → Int} {a d m i : Int} (i0 : 0 ≤ i) (i1 : i < 48) : cpI f (mix z g 48) a d m i = cpI f g a d m i := by
  unfold cpI
  split
  · rfl
  · exact mix_in i0 i1
theorem ceb_fl {F g : Int → Int} {a m v : Int} (h : ∀ i, 0 ≤ i → i < 48 → F i = flI g a m v i) (hg : ∀ c, 0 ≤ c → c < 48 → 0 ≤ g c ∧ g c < 1024) (hv : 0 ≤ v ∧ v < 1024) : ∀ i, 0 ≤ i → i < 48 → 0 ≤ F i ∧ F i < 1024 := fun i i0 i1 => by
  rw [h i i0 i1]
  unfold flI
  split
  · exact hv
  · exact hg i i0 i1
theorem ceb_cp {F f g : Int → Int} {a d m : Int} (h : ∀ i, 0 ≤ i → i < 48 → F i = cpI f g a d m i) (hf : ∀ c, 0 ≤ c → c < 48 → 0 ≤ f c ∧ f c < 1024) (hg : ∀ c, 0 ≤ c → c < 48 → 0 ≤ g c ∧ g c < 1024) (a0 : 0 ≤ a) (ha : m ≤ 48 - a) : ∀ i, 0 ≤ i → i < 48 → 0 ≤ F i ∧ F i < 1024 := fun i i0 i1 => by
  rw [h i i0 i1]
  unfold cpI
  split
  · exact hf _ (by omega) (by omega)
  · exact hg i i0 i1
theorem ceb_mg {F s : Int → Int} {b x : Int} (h : ∀ i, 0 ≤ i → i < 48 → F i = mgF s b x i) (hf : ∀ c, 0 ≤ c → c < 48 → 0 ≤ mc s (mS s (mh s b)) c ∧ mc s (mS s (mh s b)) c < 1024) (hg : ∀ c, 0 ≤ c → c < 48 → 0 ≤ mc s (mS s x) c ∧ mc s (mS s x) c < 1024) : ∀ i, 0 ≤ i → i < 48 → 0 ≤ F i ∧ F i < 1024 := fun i i0 i1 => by
  rw [h i i0 i1]
  have a := hf i i0 i1
  have c := hg i i0 i1
  unfold mgF mgC
  split
  · exact a
  · exact c
theorem fl_i {f : Int → Int} {a c v : Int} (h : a ≤ c) : updI (flI f a (c - a) v) c v = flI f a (c + 1 - a) v := by
  have := flI_s (f := f) (a := a) (k := c - a) (v := v) (by omega)
  rw [show a + (c - a) = c by omega, show c - a + 1 = c + 1 - a by omega] at this
  exact this
theorem trS_le {s ce s' : Int → Int} {b r : Int} (hM : MV s) (g : trS s ce b r s') : r ≤ s 1 := by
  have := hM.s1
  rcases g with ⟨_, e, _⟩ | ⟨_, e, _⟩ <;> omega
