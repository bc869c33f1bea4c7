/-! ===== a step leaves alone what lies outside the numbers ===== -/
def Out (s s' : Int → Int) : Prop := ∀ j, ¬ (0 ≤ j ∧ j < 498) → s' j = s j
theorem Out.rf {s : Int → Int} : Out s s := fun _ _ => rfl
theorem Out.tr {s s' s'' : Int → Int} (h : Out s s') (h' : Out s' s'') : Out s s'' := fun j hj => (h' j hj).trans (h j hj)
theorem Out.u {s s' : Int → Int} {i x : Int} (h : Out s s') (h0 : 0 ≤ i) (h1 : i < 498) : Out s (updI s' i x) := fun j hj => by
  rw [updI_n (by omega)]; exact h j hj
theorem mkM_out {s ce : Int → Int} {b p : Int} (b0 : 0 ≤ b) (b1 : b < 40) : Out s (mkM s ce b p) := fun j hj => by
  unfold mkM
  rw [updI_n (by omega)]
  unfold cpI
  rw [if_neg (by omega), updI_n (by omega)]
theorem bfR_out {s ce s' : Int → Int} {p r : Int} (h : bfR s ce p r s') : Out s s' := by
  rcases h with ⟨_, _, _, rfl⟩ | ⟨_, r0, r1, _, _, rfl⟩
  · exact Out.rf.u (by omega) (by omega)
  · exact mkM_out r0 r1
theorem wrR_out {ce s s' : Int → Int} {fr k : Int} {p : Nat} (k0 : 0 ≤ k) (k1 : k < 16) (hp : p < 6) (h : wrR ce fr k s p s') : Out s s' := by
  rcases h with ⟨_, rfl⟩ | ⟨_, r, s1, hb, rfl⟩
  · exact Out.rf.u (by omega) (by omega)
  · exact (bfR_out hb).u (by omega) (by omega)
theorem wrC_out {ce s : Int → Int} {fr k : Int} (k0 : 0 ≤ k) (k1 : k < 16) : ∀ {p : Nat} {s' : Int → Int}, p ≤ 6 → wrC ce fr k s p s' → Out s s'
  | 0, _, _, h => by rw [show _ = s from h]; exact Out.rf
  | p + 1, _, hp, ⟨_, h, h'⟩ => (wrC_out k0 k1 (by omega) h).tr (wrR_out k0 k1 (by omega) h')
theorem trS_out {s ce s' : Int → Int} {b r : Int} (hM : MV s) (hb : ISb s b) (h : trS s ce b r s') : Out s s' := by
  have hz := hM.z
  have hb0 := hb.1
  have hb1 := hb.lt
  rcases h with ⟨_, _, rfl⟩ | ⟨a, _, s6, c, rfl⟩
  · exact Out.rf
  · have h0 : Out s (wr0 s b) := (Out.rf.u (by omega) (by have := a.1; omega)).u (by omega) (by have := a.1; omega)
    have h6 := h0.tr (wrC_out (by omega) a.1 (by omega) c)
    exact ((h6.u (by omega) (by omega)).u (by omega) (by omega)).u (by omega) (by omega)
theorem odS_out {s s' w : Int → Int} {k r : Int} (hM : MV s) (h : odS s k w r s') : Out s s' := by
  have hz := hM.z
  have key : ∀ {b c m v r : Int} {s' : Int → Int}, qFi s b c m v r s' → Out s s' := by
    intro b c m v r s' h
    rcases h with ⟨_, _, rfl⟩ | ⟨a, g⟩
    · exact Out.rf
    · exact trS_out hM a.1 g
  rcases h with ⟨_, h⟩ | ⟨_, h⟩ | ⟨_, h⟩ | ⟨_, h⟩ | ⟨_, h⟩
  · exact key h
  · exact key h
  · rcases h with ⟨_, _, rfl⟩ | ⟨a, ra, sa, g, k⟩
    · exact Out.rf
    · rcases k with ⟨_, _, rfl⟩ | ⟨_, _, rfl⟩
      · exact trS_out hM a.1 g
      · exact (trS_out hM a.1 g).u (by omega) (by omega)
  · rcases h with ⟨_, _, rfl⟩ | ⟨_, _, _, rfl⟩ | ⟨_, a, rfl, rfl⟩
    · exact Out.rf
    · exact Out.rf
    · have := FBm_in a
      exact Out.rf.u (by omega) (by omega)
  · rcases h with ⟨_, _, rfl⟩ | ⟨_, _, _, rfl⟩ | ⟨a, b, _, rfl⟩
    · exact Out.rf
    · exact Out.rf
    · have hx := mS_in (fO_nn.mp a)
      exact fun j hj => fr_o (fO_nn.mp a) hx.1 hz.2 hj
theorem plC_out {t : Int → Int} {len : Int} {s0 : Int → Int} (hl : 0 ≤ len) (hM : MV s0) : ∀ {n : Nat} {s : Int → Int} {f : Int}, plC t len s0 n s f → Out s0 s
  | 0, _, _, h => by rw [h.1]; exact Out.rf
  | n + 1, _, _, ⟨s1, f1, w, r, h, a, b, c, d⟩ => (plC_out hl hM h).tr (odS_out (plC_bd hl hM h).2.2.1 c)
theorem plE_out {t : Int → Int} {len : Int} {s0 s : Int → Int} {n : Nat} {a b c d : Int} (hl : 0 ≤ len) (hM : MV s0) (h : plE t len s0 n a b c d s) : Out s0 s := by
  obtain ⟨s1, f1, hc, he⟩ := h
  have hb := plC_bd hl hM hc
  have ho := plC_out hl hM hc
  rcases he with ⟨z, z1, rfl⟩ | ⟨z, z1, z2, z3, f, w, hr, z4, rfl⟩ | ⟨z, z1, z2, z3, f, w, hr, z4, z5⟩
  · exact ho
  · exact ho
  · exact ho.tr (odS_out hb.2.2.1 z4)
theorem Out.back {s s' a : Int → Int} (h : Out s s') : cpI (cpI s a 0 0 498) s' 0 0 498 = s := by
  funext j
  by_cases hj : 0 ≤ j ∧ j < 498
  · rw [cp_i hj.1 hj.2, cp_i hj.1 hj.2]
  · have e : cpI (cpI s a 0 0 498) s' 0 0 498 j = s' j := by unfold cpI; rw [if_neg (by omega)]
    rw [e]; exact h j hj
/-! ===== what the reference's changes say, as steps ===== -/
def CHg (V : Vt) (r : Int) (V' : Vt) : Prop := ∃ ce, (r < 0 ∧ V' = up V 21 0 ce) ∨ (0 ≤ r ∧ V' = up (chV (up V 21 0 ce)) 17 0 (V' 17 0))
theorem CHg.n {V : Vt} {r : Int} (h : r < 0) : CHg V r V := ⟨V 21 0, Or.inl ⟨h, up_self.symm⟩⟩
theorem CHg.p {V : Vt} {r : Int} {g : Int → Int} (h : 0 ≤ r) : CHg V r (up (chV V) 17 0 g) := ⟨V 21 0, Or.inr ⟨h, by rw [up_self, up_s]⟩⟩
theorem trQ_S {V V' : Vt} {ce : Int → Int} {b r : Int} (hM : MV (V 17 0)) (h : trQ (up V 21 0 ce) b r V') : trS (V 17 0) ce b r (V' 17 0) ∧ CHg V r V' := by
  have h1 := hM.s1
  rcases h with ⟨a, rfl, rfl⟩ | ⟨a, e, s6, c, rfl⟩
  · exact ⟨Or.inl ⟨a, rfl, rfl⟩, ce, Or.inl ⟨by omega, rfl⟩⟩
  · have e1 : r = V 17 0 1 := e
    refine ⟨Or.inr ⟨a, e1, s6, c, up_s⟩, ce, Or.inr ⟨by omega, by rw [up_s]⟩⟩
theorem mix_in {f g : Int → Int} {c : Int} (c0 : 0 ≤ c) (c1 : c < 48) : mix f g 48 c = g c := if_pos ⟨c0, c1⟩
theorem fi_of {V V' : Vt} {b cell many value r : Int} (hM : MV (V 17 0)) (h : (¬ ((0 ≤ b ∧ b ≤ 3 ∧ 0 ≤ mh (V 17 0) b) ∧ ((0 ≤ cell ∧ cell ≤ 47) ∧ 1 ≤ many ∧ many ≤ 48 - cell) ∧ 0 ≤ value ∧ value ≤ 999) ∧ r = -1000001 ∧ V' = V) ∨ (((0 ≤ b ∧ b ≤ 3 ∧ 0 ≤ mh (V 17 0) b) ∧ ((0 ≤ cell ∧ cell ≤ 47) ∧ 1 ≤ many ∧ many ≤ 48 - cell) ∧ 0 ≤ value ∧ value ≤ 999) ∧ trQ (up V 21 0 (flI (mix (V 21 0) (fun c => mc (V 17 0) (mS (V 17 0) (mh (V 17 0) b)) c) 48) cell many value)) b r V')) :
    qFi (V 17 0) b cell many value r (V' 17 0) ∧ CHg V r V' := by
  rcases h with ⟨a, rfl, rfl⟩ | ⟨a, g⟩
  · exact ⟨Or.inl ⟨a, rfl, rfl⟩, CHg.n (by omega)⟩
  · have z := trQ_S hM g
    refine ⟨Or.inr ⟨a, trS_ce (fun c c0 c1 => ?_) z.1⟩, z.2⟩
    unfold flI
    by_cases hj : cell ≤ c ∧ c < cell + many
    · rw [if_pos hj, if_pos hj]
    · rw [if_neg hj, if_neg hj, mix_in c0 c1]
theorem co_of {V V' : Vt} {b x src dst many r : Int} (hM : MV (V 17 0)) (h : (¬ ((0 ≤ b ∧ b ≤ 3 ∧ 0 ≤ mh (V 17 0) b) ∧ 0 ≤ fO (mS (V 17 0) x) ∧ ((0 ≤ src ∧ src ≤ 47) ∧ 1 ≤ many ∧ many ≤ 48 - src) ∧ (0 ≤ dst ∧ dst ≤ 47) ∧ 1 ≤ many ∧ many ≤ 48 - dst) ∧ r = -1000001 ∧ V' = V) ∨ (((0 ≤ b ∧ b ≤ 3 ∧ 0 ≤ mh (V 17 0) b) ∧ 0 ≤ fO (mS (V 17 0) x) ∧ ((0 ≤ src ∧ src ≤ 47) ∧ 1 ≤ many ∧ many ≤ 48 - src) ∧ (0 ≤ dst ∧ dst ≤ 47) ∧ 1 ≤ many ∧ many ≤ 48 - dst) ∧ trQ (up V 21 0 (cpI (fun c => mc (V 17 0) (mS (V 17 0) x) c) (mix (V 21 0) (fun c => mc (V 17 0) (mS (V 17 0) (mh (V 17 0) b)) c) 48) src dst many)) b r V')) :
    qCo (V 17 0) b x src dst many r (V' 17 0) ∧ CHg V r V' := by
  rcases h with ⟨a, rfl, rfl⟩ | ⟨a, g⟩
  · exact ⟨Or.inl ⟨a, rfl, rfl⟩, CHg.n (by omega)⟩
  · have z := trQ_S hM g
    refine ⟨Or.inr ⟨a, trS_ce (fun c c0 c1 => ?_) z.1⟩, z.2⟩
    unfold cpI
    by_cases hj : dst ≤ c ∧ c < dst + many
    · rw [if_pos hj, if_pos hj]
    · rw [if_neg hj, if_neg hj, mix_in c0 c1]
theorem mgN_nn {s : Int → Int} {b x : Int} : 0 ≤ mgN s b x := sm_nn (fun j _ _ => (b2i_b _).1)
theorem CHg.x {V Va : Vt} {r r' : Int} {g : Int → Int} (h : CHg V r Va) (h0 : 0 ≤ r) (h1 : 0 ≤ r') : CHg V r' (up Va 17 0 g) := by
  obtain ⟨ce, ⟨z, _⟩ | ⟨_, e⟩⟩ := h
  · omega
  · refine ⟨ce, Or.inr ⟨h1, ?_⟩⟩
    rw [up_s]
    conv => lhs; rw [e]
    exact upup _ _ _ _ _
theorem me_of {V V' : Vt} {b x r : Int} (hM : MV (V 17 0)) (h : (¬ ((0 ≤ b ∧ b ≤ 3 ∧ 0 ≤ mh (V 17 0) b) ∧ 0 ≤ fO (mS (V 17 0) x)) ∧ r = -1000001 ∧ V' = V) ∨ (((0 ≤ b ∧ b ≤ 3 ∧ 0 ≤ mh (V 17 0) b) ∧ 0 ≤ fO (mS (V 17 0) x)) ∧ ∃ (ra : Int) (Va : Vt), trQ (up V 21 0 (mix (V 21 0) (fun c => mgC (mc (V 17 0) (mS (V 17 0) (cmM (V 17 0) x 16 (mh (V 17 0) b))) c) (mc (V 17 0) (mS (V 17 0) (mh (V 17 0) b)) c) (mc (V 17 0) (mS (V 17 0) x) c)) 48)) b ra Va ∧ ((ra < 0 ∧ r = ra ∧ V' = Va) ∨ (0 ≤ ra ∧ r = sm 48 (fun c => b2i (mgX (mc (V 17 0) (mS (V 17 0) (cmM (V 17 0) x 16 (mh (V 17 0) b))) c) (mc (V 17 0) (mS (V 17 0) (mh (V 17 0) b)) c) (mc (V 17 0) (mS (V 17 0) x) c))) ∧ V' = up Va 17 0 (updI (Va 17 0) 4 (Va 17 0 4 + r)))))) :
    qMe (V 17 0) b x r (V' 17 0) ∧ CHg V r V' := by
  rcases h with ⟨a, rfl, rfl⟩ | ⟨a, ra, Va, g, k⟩
  · exact ⟨Or.inl ⟨a, rfl, rfl⟩, CHg.n (by omega)⟩
  · have z := trQ_S hM g
    have z1 : trS (V 17 0) (mgF (V 17 0) b x) b ra (Va 17 0) := trS_ce (fun c c0 c1 => by rw [mix_in c0 c1]; rfl) z.1
    rcases k with ⟨k0, rfl, rfl⟩ | ⟨k0, e, rfl⟩
    · exact ⟨Or.inr ⟨a, _, _, z1, Or.inl ⟨k0, rfl, rfl⟩⟩, z.2⟩
    · have e1 : r = mgN (V 17 0) b x := e
      refine ⟨Or.inr ⟨a, _, _, z1, Or.inr ⟨k0, e1, up_s⟩⟩, z.2.x k0 (by rw [e1]; exact mgN_nn)⟩
theorem br_of {V V' : Vt} {x r : Int} (h : (¬ (0 ≤ fO (mS (V 17 0) x)) ∧ r = -1000001 ∧ V' = V) ∨ ((0 ≤ fO (mS (V 17 0) x)) ∧ FBm (V 17 0) = -1 ∧ r = -1000003 ∧ V' = V) ∨ ((0 ≤ fO (mS (V 17 0) x)) ∧ 0 ≤ FBm (V 17 0) ∧ r = FBm (V 17 0) ∧ V' = up (chV V) 17 0 (updI (V 17 0) (6 + r) x))) :
    qBr (V 17 0) x r (V' 17 0) ∧ CHg V r V' := by
  rcases h with ⟨a, rfl, rfl⟩ | ⟨a, b, rfl, rfl⟩ | ⟨a, b, rfl, rfl⟩
  · exact ⟨Or.inl ⟨a, rfl, rfl⟩, CHg.n (by omega)⟩
  · exact ⟨Or.inr (Or.inl ⟨a, b, rfl, rfl⟩), CHg.n (by omega)⟩
  · exact ⟨Or.inr (Or.inr ⟨a, b, rfl, up_s⟩), CHg.p b⟩
theorem le_of {V V' : Vt} {b r : Int} (h : (¬ (0 ≤ b ∧ b ≤ 3 ∧ 0 ≤ mh (V 17 0) b) ∧ r = -1000001 ∧ V' = V) ∨ ((0 ≤ b ∧ b ≤ 3 ∧ 0 ≤ mh (V 17 0) b) ∧ sm 4 (fun d => b2i (0 ≤ mh (V 17 0) d)) = 1 ∧ r = -1000002 ∧ V' = V) ∨ ((0 ≤ b ∧ b ≤ 3 ∧ 0 ≤ mh (V 17 0) b) ∧ ¬ sm 4 (fun d => b2i (0 ≤ mh (V 17 0) d)) = 1 ∧ V' = up (chV V) 17 0 (updI (V 17 0) (6 + b) (-1)) ∧ r = sm 4 (fun d => b2i (0 ≤ mh (V' 17 0) d)))) :
    qLe (V 17 0) b r (V' 17 0) ∧ CHg V r V' := by
  rcases h with ⟨a, rfl, rfl⟩ | ⟨a, b, rfl, rfl⟩ | ⟨a, b, rfl, e⟩
  · exact ⟨Or.inl ⟨a, rfl, rfl⟩, CHg.n (by omega)⟩
  · exact ⟨Or.inr (Or.inl ⟨a, b, rfl, rfl⟩), CHg.n (by omega)⟩
  · exact ⟨Or.inr (Or.inr ⟨a, b, up_s, e⟩), CHg.p (by rw [e]; exact sm_nn (fun j _ _ => (b2i_b _).1))⟩
theorem ba_of {V V' : Vt} {b r : Int} (hM : MV (V 17 0)) (h : (¬ (0 ≤ b ∧ b ≤ 3 ∧ 0 ≤ mh (V 17 0) b) ∧ r = -1000001 ∧ V' = V) ∨ ((0 ≤ b ∧ b ≤ 3 ∧ 0 ≤ mh (V 17 0) b) ∧ mh (V 17 0) b = 0 ∧ r = -1000002 ∧ V' = V) ∨ ((0 ≤ b ∧ b ≤ 3 ∧ 0 ≤ mh (V 17 0) b) ∧ ¬ mh (V 17 0) b = 0 ∧ r = gM (V 17 0) (mh (V 17 0) b) ∧ V' = up (chV V) 17 0 (updI (V 17 0) (6 + b) r))) :
    qBa (V 17 0) b r (V' 17 0) ∧ CHg V r V' := by
  rcases h with ⟨a, rfl, rfl⟩ | ⟨a, b, rfl, rfl⟩ | ⟨a, b, rfl, rfl⟩
  · exact ⟨Or.inl ⟨a, rfl, rfl⟩, CHg.n (by omega)⟩
  · exact ⟨Or.inr (Or.inl ⟨a, b, rfl, rfl⟩), CHg.n (by omega)⟩
  · have hs := ISb.sl hM a
    have hp := hM.i.par hs.1 (by have := a.2.2; omega)
    exact ⟨Or.inr (Or.inr ⟨a, b, rfl, up_s⟩), CHg.p (hM.i.nn hp.1).1⟩
theorem se_of {V V' : Vt} {what value r : Int} (hM : MV (V 17 0)) (h : (¬ (what = 0 ∧ 0 ≤ value ∧ value ≤ 1) ∧ r = -1000001 ∧ V' = V) ∨ ((what = 0 ∧ 0 ≤ value ∧ value ≤ 1) ∧ r = V 17 0 5 ∧ V' = up (chV V) 17 0 (updI (V 17 0) 5 value))) :
    qSe (V 17 0) what value r (V' 17 0) ∧ CHg V r V' := by
  rcases h with ⟨a, rfl, rfl⟩ | ⟨a, rfl, rfl⟩
  · exact ⟨Or.inl ⟨a, rfl, rfl⟩, CHg.n (by omega)⟩
  · exact ⟨Or.inr ⟨a, rfl, up_s⟩, CHg.p (by have := hM.g; omega)⟩
theorem fo_of {V V' : Vt} {x r : Int} (h : (¬ 0 ≤ fO (mS (V 17 0) x) ∧ r = -1000001 ∧ V' = V) ∨ (0 ≤ fO (mS (V 17 0) x) ∧ ¬ (0 < x ∧ ∀ d, 0 ≤ d → d < 4 → ¬ mh (V 17 0) d = x) ∧ r = -1000002 ∧ V' = V) ∨ (0 ≤ fO (mS (V 17 0) x) ∧ (0 < x ∧ ∀ d, 0 ≤ d → d < 4 → ¬ mh (V 17 0) d = x) ∧ r = sm 40 (fun b => b2i (mf (fgM (V 17 0) x (mo (V 17 0) (mS (V 17 0) x) 1) (mS (V 17 0) x) (V 17 0 0)) b = 1 ∧ pwM (fgM (V 17 0) x (mo (V 17 0) (mS (V 17 0) x) 1) (mS (V 17 0) x) (V 17 0 0)) b = 0)) ∧ V' = up (chV V) 17 0 (swS (fgM (V 17 0) x (mo (V 17 0) (mS (V 17 0) x) 1) (mS (V 17 0) x) (V 17 0 0)) 40))) :
    qFo (V 17 0) x r (V' 17 0) ∧ CHg V r V' := by
  rcases h with ⟨a, rfl, rfl⟩ | ⟨a, b, rfl, rfl⟩ | ⟨a, b, e, rfl⟩
  · exact ⟨Or.inl ⟨a, rfl, rfl⟩, CHg.n (by omega)⟩
  · exact ⟨Or.inr (Or.inl ⟨a, b, rfl, rfl⟩), CHg.n (by omega)⟩
  · exact ⟨Or.inr (Or.inr ⟨a, b, e, up_s⟩), CHg.p (by rw [e]; exact sm_nn (fun j _ _ => (b2i_b _).1))⟩
theorem sh_of {V V' : Vt} {r : Int} (h : r = sm 40 (fun b => b2i (mf (shS (V 17 0) (V 17 0 0) 0) b = 1 ∧ pwM (shS (V 17 0) (V 17 0 0) 0) b = 0)) ∧ V' = up (chV V) 17 0 (swS (shS (V 17 0) (V 17 0 0) 0) 40)) :
    qSh (V 17 0) r (V' 17 0) ∧ CHg V r V' := by
  obtain ⟨e, rfl⟩ := h
  exact ⟨⟨e, up_s⟩, CHg.p (by rw [e]; exact sm_nn (fun j _ _ => (b2i_b _).1))⟩
/-- while orders run nothing is kept: only two rows change -/
theorem CHg.run {V V' : Vt} {r : Int} (h : CHg V r V') (hr : ¬ V 16 0 4 = 0) : ∀ r0 w', r0 ≠ 17 → r0 ≠ 21 → V' r0 w' = V r0 w' := by
  intro r0 w' h17 h21
  obtain ⟨ce, ⟨_, e⟩ | ⟨_, e⟩⟩ := h
  · rw [e, up_r h21]
  · have ec : chV (up V 21 0 ce) = up V 21 0 ce := by unfold chV; rw [if_neg (show ¬ (up V 21 0 ce) 16 0 4 = 0 from hr)]
    rw [e, ec, up_r h17, up_r h21]
/-! ===== an order read: both say it alike ===== -/
theorem rdC_nb {V : Vt} (hl : V 16 0 8 < V 16 0 6) : nbO (rdC V) = nbO (V 20 0 (V 16 0 8)) ∧ (¬ nbO (rdC V) = 0 → rdC V = V 20 0 (V 16 0 8)) := by
  unfold rdC
  by_cases h : V 16 0 8 < V 16 0 6 ∧ 33 ≤ V 20 0 (V 16 0 8) ∧ V 20 0 (V 16 0 8) ≤ 126
  · rw [if_pos h]; exact ⟨rfl, fun _ => rfl⟩
  · rw [if_neg h]
    have e : nbO (0 : Int) = 0 := by decide
    refine ⟨?_, fun z => absurd e z⟩
    rw [e]
    unfold nbO
    rw [if_neg (by omega), if_neg (by omega), if_neg (by omega), if_neg (by omega)]
theorem rd_of {V V' : Vt} {r : Int} (hl : V 16 0 8 < V 16 0 6) (h : (nbO (rdC V) = 0 ∧ r = 0 ∧ V' = up V 16 0 (updI (V 16 0) 13 (rdC V))) ∨ (¬ nbO (rdC V) = 0 ∧ ∃ i ok f w, RdI (V 20 0) (V 16 0 6) (V 16 0 8 + 1) (V 22 0) i ok f w ∧ i ≤ nbO (rdC V) ∧ (i = nbO (rdC V) ∨ ok = 0) ∧ ((ok = 1 ∧ (f < V 16 0 6 ∧ 59 ≤ V 20 0 f ∧ V 20 0 f ≤ 59) ∧ r = 1 ∧ V' = rdW V w (f + 1)) ∨ (¬ (ok = 1 ∧ (f < V 16 0 6 ∧ 59 ≤ V 20 0 f ∧ V 20 0 f ≤ 59)) ∧ r = 0 ∧ V' = rdW V w f)))) :
    ∃ (f : Int) (w : Int → Int), rdP (V 20 0) (V 16 0 6) (V 16 0 8) r f w ∧ V' 16 0 8 = f ∧ (r = 1 → V' 16 0 13 = V 20 0 (V 16 0 8) ∧ ∀ j, 0 ≤ j → j < nbO (V 20 0 (V 16 0 8)) → V' 22 0 j = w j) ∧ (∀ j, j ≠ 8 → j ≠ 13 → V' 16 0 j = V 16 0 j) ∧ (∀ r0 w', r0 ≠ 16 → r0 ≠ 22 → V' r0 w' = V r0 w') := by
  obtain ⟨e1, e2⟩ := rdC_nb hl
  rcases h with ⟨a, rfl, rfl⟩ | ⟨a, i, x, f, w, hR, b, c, d⟩
  · refine ⟨V 16 0 8, fun _ => 0, Or.inl ⟨by rw [← e1]; exact a, rfl, rfl⟩, ?_, fun z => by omega, fun j j8 j13 => ?_, fun r0 w' h16 h22 => ?_⟩
    · rw [up_s, updI_n (by decide)]
    · rw [up_s, updI_n j13]
    · rw [up_r h16]
  · have e2 := e2 a
    have hn := nbO_bd (rdC V)
    rw [e1] at a b c
    obtain ⟨w2, h2, ew⟩ := RdN_w0 (fun _ => 0) (show RdN (V 20 0) (V 16 0 6) (V 16 0 8 + 1) (V 22 0) (i - 1).toNat x f w from hR)
    have rw8 : ∀ g, rdW V w g 16 0 8 = g := fun g => rdW_8
    have rw13 : ∀ g, rdW V w g 16 0 13 = rdC V := fun g => by
      unfold rdW; rw [up_s, updI_n (by decide), updI_s]
    have rw22 : ∀ g, rdW V w g 22 0 = w := fun g => by
      unfold rdW; rw [up_r (by decide), up_s]
    have rwo : ∀ g j, j ≠ 8 → j ≠ 13 → rdW V w g 16 0 j = V 16 0 j := fun g j j8 j13 => by
      unfold rdW; rw [up_s, updI_n j8, updI_n j13]
    have rwr : ∀ g r0 w', r0 ≠ 16 → r0 ≠ 22 → rdW V w g r0 w' = V r0 w' := fun g r0 w' h16 h22 => by
      unfold rdW; rw [up_r h16, up_r h22]
    rcases d with ⟨d1, d2, rfl, rfl⟩ | ⟨d1, rfl, rfl⟩
    · refine ⟨f + 1, w2, Or.inr ⟨a, (i - 1).toNat, x, f, h2, by omega, by omega, Or.inl ⟨d1, d2, rfl, rfl⟩⟩, rw8 _, fun _ => ⟨by rw [rw13, e2], fun j j0 j1 => by rw [rw22]; exact ew d1 j j0 (by omega)⟩, rwo _, rwr _⟩
    · refine ⟨f, w2, Or.inr ⟨a, (i - 1).toNat, x, f, h2, by omega, by omega, Or.inr ⟨d1, rfl, rfl⟩⟩, rw8 _, fun z => by omega, rwo _, rwr _⟩
/-! the class's reading -/
def odW (V : Vt) (f : Int) (w : Int → Int) : Vt := up (up V 13 0 (updI (V 13 0) 3 f)) 15 0 w
theorem odW_3 {V : Vt} {f : Int} {w : Int → Int} : odW V f w 13 0 3 = f := by
  unfold odW; rw [up_r (by decide), up_s, updI_s]
theorem odW_13 {V : Vt} {f j : Int} {w : Int → Int} (h : j ≠ 3) : odW V f w 13 0 j = V 13 0 j := by
  unfold odW; rw [up_r (by decide), up_s, updI_n h]
theorem odW_15 {V : Vt} {f : Int} {w : Int → Int} : odW V f w 15 0 = w := by
  unfold odW; rw [up_s]
theorem odW_r {V : Vt} {f : Int} {w : Int → Int} {r w' : Nat} (h1 : r ≠ 13) (h2 : r ≠ 15) : odW V f w r w' = V r w' := by
  unfold odW; rw [up_r h2, up_r h1]
theorem odW_0 {V : Vt} : odW V (V 13 0 3) (V 15 0) = V := by
  unfold odW; rw [updI_id, up_self]; exact up_self
theorem odW_1 {V : Vt} {f : Int} : up V 13 0 (updI (V 13 0) 3 f) = odW V f (V 15 0) := by
  unfold odW
  exact (up_self (V := up V 13 0 (updI (V 13 0) 3 f)) (r := 15) (w := 0)).symm
theorem odW_u {V : Vt} {f g : Int} {w w' : Int → Int} : up (up (odW V f w) 13 0 (updI (odW V f w 13 0) 3 g)) 15 0 w' = odW V g w' := by
  unfold odW
  rw [up_r (V := up V 13 0 (updI (V 13 0) 3 f)) (r := 15) (r' := 13) (by decide), up_s, updI_2]
  funext r x
  by_cases h1 : r = 15 ∧ x = 0
  · obtain ⟨rfl, rfl⟩ := h1; rw [up_s, up_s]
  · rw [up_o h1, up_o h1]
    by_cases h2 : r = 13 ∧ x = 0
    · obtain ⟨rfl, rfl⟩ := h2; rw [up_s, up_s]
    · rw [up_o h2, up_o h1, up_o h2, up_o h2]
theorem odW_p {V : Vt} {f g : Int} {w : Int → Int} : up (odW V f w) 13 0 (updI (odW V f w 13 0) 3 g) = odW V g w := by
  have e := odW_u (V := V) (f := f) (g := g) (w := w) (w' := w)
  rw [← e]
  have h15 : (up (odW V f w) 13 0 (updI (odW V f w 13 0) 3 g)) 15 0 = w := by
    rw [up_r (by decide)]; exact odW_15
  conv => rhs; rw [← h15]
  exact up_self.symm
/-- where the class's reading stands when i numbers are read -/
def RS (t : Int → Int) (len p nn i f : Int) (w : Int → Int) : Prop := (i = 0 ∧ f = p + 1 ∧ w = fun _ => 0) ∨ (1 ≤ i ∧ ∃ g, RdN t len (p + 1) (fun _ => 0) (i - 1).toNat 1 g w ∧ ((i < nn ∧ g < len ∧ 44 ≤ t g ∧ t g ≤ 44) ∨ (i = nn ∧ SMC t len g)) ∧ f = g + 1)
theorem RS_num {t : Int → Int} {len p nn i f d : Int} {w : Int → Int} (h : RS t len p nn i f w) (i0 : 0 ≤ i) (hi : i < nn) (hd : DGm t len f d) : RdN t len (p + 1) (fun _ => 0) i.toNat (b2i (0 < d)) (f + d) (updI w i (nmV t f d.toNat)) := by
  rcases h with ⟨rfl, rfl, rfl⟩ | ⟨h1, g, hg, hs, rfl⟩
  · exact ⟨d, hd, rfl, rfl, rfl⟩
  · have e : i.toNat = (i - 1).toNat + 1 := by omega
    rw [e]
    refine ⟨g, w, hg, Or.inl ⟨?_, d, hd, rfl, rfl, ?_⟩⟩
    · rcases hs with z | z
      · exact z.2
      · omega
    · rw [show (((i - 1).toNat : Nat) : Int) + 1 = i by omega]
theorem RS_ret0 {t : Int → Int} {len p i f d : Int} {w : Int → Int} (h : RS t len p (nbO (t p)) i f w) (hz : ¬ nbO (t p) = 0) (i0 : 0 ≤ i) (hi : i < nbO (t p)) (hd : DGm t len f d) (h0 : ¬ 0 < d) : rdP t len p 0 (f + d) (updI w i (nmV t f d.toNat)) := by
  have z := RS_num h i0 hi hd
  rw [b2i_f h0] at z
  exact Or.inr ⟨hz, i.toNat, 0, f + d, z, by omega, Or.inr rfl, Or.inr ⟨fun y => absurd y.1 (by decide), rfl, rfl⟩⟩
theorem RS_nosep {t : Int → Int} {len p i f d : Int} {w : Int → Int} (h : RS t len p (nbO (t p)) i f w) (hz : ¬ nbO (t p) = 0) (i0 : 0 ≤ i) (hi : i + 1 < nbO (t p)) (hd : DGm t len f d) (h0 : 0 < d) (hs : ¬ (f + d < len ∧ 44 ≤ t (f + d) ∧ t (f + d) ≤ 44)) : rdP t len p 0 (f + d) (updI w i (nmV t f d.toNat)) := by
  have z := RS_num h i0 (by omega) hd
  rw [b2i_t h0] at z
  exact Or.inr ⟨hz, i.toNat + 1, 0, f + d, ⟨f + d, _, z, Or.inr ⟨hs, rfl, rfl, rfl⟩⟩, by omega, Or.inr rfl, Or.inr ⟨fun y => absurd y.1 (by decide), rfl, rfl⟩⟩
theorem RS_noend {t : Int → Int} {len p i f d : Int} {w : Int → Int} (h : RS t len p (nbO (t p)) i f w) (hz : ¬ nbO (t p) = 0) (i0 : 0 ≤ i) (hi : i + 1 = nbO (t p)) (hd : DGm t len f d) (h0 : 0 < d) (hs : ¬ SMC t len (f + d)) : rdP t len p 0 (f + d) (updI w i (nmV t f d.toNat)) := by
  have z := RS_num h i0 (by omega) hd
  rw [b2i_t h0] at z
  exact Or.inr ⟨hz, i.toNat, 1, f + d, z, by omega, Or.inl (by omega), Or.inr ⟨fun y => hs y.2, rfl, rfl⟩⟩
theorem RS_next {t : Int → Int} {len p nn i f d : Int} {w : Int → Int} (h : RS t len p nn i f w) (i0 : 0 ≤ i) (hi : i < nn) (hd : DGm t len f d) (h0 : 0 < d) (hs : (i + 1 < nn ∧ f + d < len ∧ 44 ≤ t (f + d) ∧ t (f + d) ≤ 44) ∨ (i + 1 = nn ∧ SMC t len (f + d))) : RS t len p nn (i + 1) (f + d + 1) (updI w i (nmV t f d.toNat)) := by
  have z := RS_num h i0 hi hd
  rw [b2i_t h0] at z
  exact Or.inr ⟨by omega, f + d, by rw [show (i + 1 - 1).toNat = i.toNat by omega]; exact z, hs, rfl⟩
theorem RS_end {t : Int → Int} {len p f : Int} {w : Int → Int} (h : RS t len p (nbO (t p)) (nbO (t p)) f w) (hz : ¬ nbO (t p) = 0) : rdP t len p 1 f w := by
  rcases h with ⟨h, _⟩ | ⟨h1, g, hg, hs, rfl⟩
  · exact absurd h hz
  · refine Or.inr ⟨hz, (nbO (t p) - 1).toNat, 1, g, hg, by omega, Or.inl (by omega), Or.inl ⟨rfl, ?_, rfl, rfl⟩⟩
    rcases hs with z | z
    · omega
    · exact z.2
theorem shN_is {t : Int → Int} {len f x : Int} (hx : 0 ≤ x) : shN t len f = x ↔ f < len ∧ x ≤ t f ∧ t f ≤ x := by
  rcases shN_c t len f with ⟨a, b⟩ | ⟨a, b⟩
  · rw [b]; omega
  · rw [b]; omega
/-! ===== what a run of orders leaves alone ===== -/
def FRd (w : Nat) (V V' : Vt) : Prop := ∀ r w', ¬ (r < 10 ∧ w' = w) → r ≠ 13 → r ≠ 15 → V' r w' = V r w'
theorem FRd.rf {w : Nat} {V : Vt} : FRd w V V := fun _ _ _ _ _ => rfl
theorem FRd.tr {w : Nat} {V V' V'' : Vt} (h : FRd w V V') (h' : FRd w V' V'') : FRd w V V'' := fun r w' z z1 z2 => (h' r w' z z1 z2).trans (h r w' z z1 z2)
theorem FRd.of {w : Nat} {V V' : Vt} (h : FR w V V') : FRd w V V' := fun r w' z _ _ => h r w' z
theorem FRd_cp {w u : Nat} {V : Vt} (hu : u ≠ w) : FRd w V (cpW V w u) := fun r w' z _ _ => by
  by_cases e : w' = w
  · exact cpW_9 (by omega)
  · exact cpW_o e hu
def FRp (V V' : Vt) : Prop := ∀ r w', r ≠ 16 → r ≠ 17 → r ≠ 21 → r ≠ 22 → V' r w' = V r w'
theorem qBr_R {s s' : Int → Int} {x r : Int} (h : qBr s x r s') : inR r := by
  rcases h with ⟨_, rfl, _⟩ | ⟨_, _, rfl, _⟩ | ⟨_, a, rfl, _⟩
  · omega
  · omega
  · have := FBm_in a
    omega
theorem qFo_R {s s' : Int → Int} {x r : Int} (h : qFo s x r s') : inR r := by
  rcases h with ⟨_, rfl, _⟩ | ⟨_, _, rfl, _⟩ | ⟨_, _, rfl, _⟩
  · omega
  · omega
  · have := sm_b2i_bd (n := 40) (p := fun b => mf (fgX s x) b = 1 ∧ pwM (fgX s x) b = 0) (by omega)
    omega
def FRq (V V' : Vt) : Prop := ∀ r w', r ≠ 16 → r ≠ 17 → r ≠ 21 → r ≠ 22 → r ≠ 23 → V' r w' = V r w'
def FRs (V V' : Vt) : Prop := ∀ r w', r ≠ 16 → r ≠ 17 → r ≠ 18 → r ≠ 21 → r ≠ 22 → r ≠ 23 → V' r w' = V r w'
theorem chV_16 {V : Vt} {j : Int} (h : j ≠ 3) : chV V 16 0 j = V 16 0 j := by
  unfold chV
  split
  · rw [up_s, updI_n h]
  · rfl
theorem chV_3 {V : Vt} (h : V 16 0 4 = 0) : chV V 16 0 3 = chN V + 1 ∧ chV V 18 0 = chP V := by
  unfold chV
  rw [if_pos h]
  exact ⟨by rw [up_s, updI_s], by rw [up_r (by decide), up_s]⟩
theorem chN_c {V V' : Vt} (h3 : V' 16 0 3 = V 16 0 3) (h17 : V' 17 0 = V 17 0) (h18 : V' 18 0 = V 18 0) : chN V' = chN V ∧ chP V' = chP V := by
  have e : chN V' = chN V := by unfold chN; rw [h3]
  refine ⟨e, ?_⟩
  unfold chP
  rw [e, h3, h17, h18]
theorem chN_bd {V : Vt} (h : 0 ≤ V 16 0 3 ∧ V 16 0 3 ≤ 4) : 0 ≤ chN V ∧ chN V ≤ 3 := by
  unfold chN
  split <;> omega
