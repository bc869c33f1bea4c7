/-! ===== a write keeps what holds; where it fits a block is free; a write has one end ===== -/
theorem wr0_e {s : Int → Int} {b j : Int} (h : j ≠ 10 + 8 * s 0) (h1 : j ≠ 10 + 8 * s 0 + 1) : wr0 s b j = s j := by
  unfold wr0; rw [updI_n h1, updI_n (by omega)]
theorem wr0_num {s : Int → Int} {b : Int} : wr0 s b (10 + 8 * s 0) = s 1 := by
  unfold wr0; rw [updI_n (by omega), Int.add_zero, updI_s]
theorem wr0_par {s : Int → Int} {b : Int} : wr0 s b (10 + 8 * s 0 + 1) = mh s b := by
  unfold wr0; rw [updI_s]
/-- what a write starts from -/
def WB (s : Int → Int) (b : Int) : Prop := MV s ∧ s 0 < 16 ∧ 0 ≤ b ∧ b < 4 ∧ 0 ≤ mh s b
theorem WB.fr {s : Int → Int} {b : Int} (h : WB s b) : 0 ≤ mS s (mh s b) ∧ mS s (mh s b) < s 0 ∧ mo s (mS s (mh s b)) 0 = mh s b := by
  obtain ⟨hM, h16, b0, b1, hh⟩ := h
  have z : 0 ≤ mS s (mh s b) := by rcases hM.h b b0 b1 with z | z <;> omega
  exact ⟨z, mS_in z⟩
theorem WB.hl {s : Int → Int} {b : Int} (h : WB s b) : ∀ q, 0 ≤ q → q < 6 → 0 ≤ mo s (mS s (mh s b)) (2 + q) ∧ mo s (mS s (mh s b)) (2 + q) < 40 ∧ mf s (mo s (mS s (mh s b)) (2 + q)) = 1 := fun q q0 q1 => by
  have hf := h.fr
  have hz := h.1.z
  have hl := h.1.l (mS s (mh s b)) q hf.1 (by omega) q0 q1
  exact ⟨hl.1, hl.2, h.1.u _ q hf.1 hf.2.1 q0 q1⟩
theorem WB.hs {s : Int → Int} {b : Int} (h : WB s b) : ∀ q, 0 ≤ q → q < 6 → mo (wr0 s b) (mS s (mh s b)) (2 + q) = mo s (mS s (mh s b)) (2 + q) := fun q q0 q1 => by
  have hf := h.fr
  unfold mo
  exact wr0_e (by omega) (by omega)
theorem JW_0 {s : Int → Int} {b : Int} (h : WB s b) (ce : Int → Int) : JW s (wr0 s b) ce (mS s (mh s b)) (s 0) 0 (wr0 s b) := by
  have hz := h.1.z
  have fm : ∀ d, 0 ≤ d → mf (wr0 s b) d = mf s d := fun d a => wr0_e (by have := h.2.1; omega) (by have := h.2.1; omega)
  have fb : ∀ d c, 0 ≤ d → 0 ≤ c → mb (wr0 s b) d c = mb s d c := fun d c a e => wr0_e (by have := h.2.1; omega) (by have := h.2.1; omega)
  refine ⟨fun j _ => rfl, fun d d0 d1 => ?_, fun d d0 d1 g => ?_, fun d d0 d1 g => ?_, fun q q0 q1 => ?_, ?_⟩
  · rw [fm d d0]; exact h.1.f d d0 d1
  · exact ⟨(fm d d0).trans g, fun c c0 c1 => fb d c d0 c0⟩
  · exact Or.inl ((fm d d0).symm.trans g)
  · exact absurd q1 (by omega)
  · rw [sm_congr (g := fun d => mf s d) (fun d d0 _ => fm d d0), sm_0 (n := ((0 : Nat) : Int)) (by omega)]; omega
theorem JW_c {s : Int → Int} {b : Int} (h : WB s b) (ce : Int → Int) : ∀ (p : Nat) (sp : Int → Int), p ≤ 6 → wrC ce (mS s (mh s b)) (s 0) (wr0 s b) p sp → JW s (wr0 s b) ce (mS s (mh s b)) (s 0) p sp
  | 0, sp, _, hc => by
    rw [show sp = wr0 s b from hc]; exact JW_0 h ce
  | p + 1, sp, hp, ⟨sq, hc, hr⟩ => by
    have hf := h.fr
    exact JW_s (JW_c h ce p sq (by omega) hc) hf.1 hf.2.1 (by have := h.2.1; omega) (wr0_e (by omega) (by omega)) (by omega) h.hs h.hl hr
theorem NDm_ge {s ce : Int → Int} {k : Int} {p : Nat} (hp : p < 6) (hd : DFm s ce k (p : Int)) (ht : ¬ TKm s ce k (p : Int)) : sm (p : Int) (fun q => b2i (DFm s ce k q ∧ ¬ TKm s ce k q)) + 1 ≤ NDm s ce k := by
  have h1 := sm_mono (m := (p : Int) + 1) (n := 6) (f := fun q => b2i (DFm s ce k q ∧ ¬ TKm s ce k q)) (by omega) (by omega) (fun j _ _ => (b2i_b _).1)
  rw [sm_s (by omega), b2i_t ⟨hd, ht⟩] at h1
  exact h1
/-- where a write fits, a block is free wherever one is made -/
theorem MV.hf {s : Int → Int} (hM : MV s) {b : Int} (b0 : 0 ≤ b) (b1 : b < 4) (hh : 0 ≤ mh s b) : HFm s b := by
  intro ce p sp hfit hp hc hd hn
  have hW : WB s b := ⟨hM, hfit.1, b0, b1, hh⟩
  have hf := hW.fr
  have J := JW_c hW ce p sp (by omega) hc
  have e5 : sp 5 = s 5 := (J.1 5 (by have := hM.z; omega)).trans (wr0_e (by have := hM.z; omega) (by have := hM.z; omega))
  have hd' := (J.df hf.1 hf.2.1 hW.hs hW.hl (q := (p : Int)) (by omega) (by omega)).mp hd
  have ht : ¬ TKm s ce (mS s (mh s b)) (p : Int) := fun z => hn ((J.tk e5).mpr z)
  have hg := NDm_ge hp hd' ht
  have h6 := J.2.2.2.2.2
  refine Classical.byContradiction fun hx => ?_
  have hall : ∀ d : Int, 0 ≤ d → d < 40 → mf sp d = 1 := fun d d0 d1 => Classical.byContradiction fun z => hx ⟨d, d0, d1, z⟩
  rw [sm_c1 (by omega) hall] at h6
  have := hfit.2
  omega
theorem MV.hh {s : Int → Int} (hM : MV s) : MH s := ⟨fun b b0 b1 g => by rcases hM.h b b0 b1 with z | z <;> omega, hM.f, fun b b0 b1 g => hM.hf b0 b1 g⟩
/-- a write that went through did fit -/
theorem FIT_of {s ce s6 : Int → Int} {b : Int} (hW : WB s b) (hc : wrC ce (mS s (mh s b)) (s 0) (wr0 s b) 6 s6) : FITm s ce b := by
  have J := JW_c hW ce 6 s6 (by omega) hc
  have h6 := J.2.2.2.2.2
  have hle := sm_le (n := 40) (f := fun d => mf s6 d) (g := fun _ => 1) (fun d d0 d1 => by rcases J.2.1 d d0 d1 with z | z <;> omega)
  rw [sm_c1 (n := 40) (f := fun _ => 1) (by omega) (fun _ _ _ => rfl)] at hle
  refine ⟨hW.2.1, ?_⟩
  unfold NDm
  have e : (((6 : Nat) : Int)) = 6 := rfl
  rw [e] at h6
  omega
/-- and one that finds no block does not -/
theorem notFIT {s ce sp : Int → Int} {b : Int} {p : Nat} (hW : WB s b) (hp : p < 6) (hc : wrC ce (mS s (mh s b)) (s 0) (wr0 s b) p sp) (hd : DFm sp ce (mS s (mh s b)) (p : Int)) (hn : ¬ (sp 5 = 1 ∧ 0 ≤ FDm sp ce (p : Int))) (hall : ∀ d, 0 ≤ d → d < 40 → mf sp d = 1) : ¬ FITm s ce b := by
  intro hfit
  obtain ⟨d, d0, d1, g⟩ := hW.1.hf hW.2.2.1 hW.2.2.2.1 hW.2.2.2.2 ce p sp hfit hp hc hd hn
  exact g (hall d d0 d1)
theorem bfR_det {s ce s1 s2 : Int → Int} {p r1 r2 : Int} (h1 : bfR s ce p r1 s1) (h2 : bfR s ce p r2 s2) : r1 = r2 ∧ s1 = s2 := by
  rcases h1 with ⟨a1, a2, rfl, rfl⟩ | ⟨a1, a2, a3, a4, a5, rfl⟩
  · rcases h2 with ⟨_, _, rfl, rfl⟩ | ⟨b1, _⟩
    · exact ⟨rfl, rfl⟩
    · exact absurd ⟨a1, a2⟩ b1
  · rcases h2 with ⟨b1, b2, _⟩ | ⟨b1, b2, b3, b4, b5, rfl⟩
    · exact absurd ⟨b1, b2⟩ a1
    · have e : r1 = r2 := by
        rcases Int.lt_trichotomy r1 r2 with z | z | z
        · exact absurd (b5 r1 a2 z) a4
        · exact z
        · exact absurd (a5 r2 b2 z) b4
      subst e
      exact ⟨rfl, rfl⟩
theorem wrR_det {ce s s1 s2 : Int → Int} {fr k : Int} {p : Nat} (h1 : wrR ce fr k s p s1) (h2 : wrR ce fr k s p s2) : s1 = s2 := by
  rcases h1 with ⟨a, rfl⟩ | ⟨a, r, t, hb, rfl⟩
  · rcases h2 with ⟨_, rfl⟩ | ⟨b, _⟩
    · rfl
    · exact absurd b a
  · rcases h2 with ⟨b, _⟩ | ⟨_, r', t', hb', rfl⟩
    · exact absurd a b
    · obtain ⟨rfl, rfl⟩ := bfR_det hb hb'
      rfl
theorem wrC_det {ce s : Int → Int} {fr k : Int} : ∀ {p : Nat} {s1 s2 : Int → Int}, wrC ce fr k s p s1 → wrC ce fr k s p s2 → s1 = s2
  | 0, _, _, h1, h2 => by rw [show _ = s from h1, show _ = s from h2]
  | _ + 1, _, _, ⟨_, h1, g1⟩, ⟨_, h2, g2⟩ => by
    rw [wrC_det h1 h2] at g1
    exact wrR_det g1 g2
/-! only the 48 cells count -/
theorem DFm_ce {s ce ce' : Int → Int} {k p : Int} (h : ∀ c, 0 ≤ c → c < 48 → ce c = ce' c) (p0 : 0 ≤ p) (p1 : p < 6) : DFm s ce k p ↔ DFm s ce' k p := by
  constructor
  · rintro ⟨c, a, b, e⟩; exact ⟨c, a, b, by rw [← h c (by omega) (by omega)]; exact e⟩
  · rintro ⟨c, a, b, e⟩; exact ⟨c, a, b, by rw [h c (by omega) (by omega)]; exact e⟩
theorem FDm_ce {s ce ce' : Int → Int} {p : Int} (h : ∀ c, 0 ≤ c → c < 48 → ce c = ce' c) (p0 : 0 ≤ p) (p1 : p < 6) : FDm s ce p = FDm s ce' p := by
  unfold FDm
  refine fnd_congr (fun j _ _ => ?_)
  constructor
  · rintro ⟨a, b, c, d⟩; exact ⟨a, b, c, fun x x0 x1 => by rw [← h _ (by omega) (by omega)]; exact d x x0 x1⟩
  · rintro ⟨a, b, c, d⟩; exact ⟨a, b, c, fun x x0 x1 => by rw [h _ (by omega) (by omega)]; exact d x x0 x1⟩
theorem SMm_ce {ce ce' : Int → Int} {p q : Int} (h : ∀ c, 0 ≤ c → c < 48 → ce c = ce' c) (p0 : 0 ≤ p) (p1 : p < 6) (q0 : 0 ≤ q) (q1 : q < 6) : SMm ce p q ↔ SMm ce' p q := by
  constructor
  · intro g c c0 c1; rw [← h _ (by omega) (by omega), ← h _ (by omega) (by omega)]; exact g c c0 c1
  · intro g c c0 c1; rw [h _ (by omega) (by omega), h _ (by omega) (by omega)]; exact g c c0 c1
theorem TKm_ce {s ce ce' : Int → Int} {k p : Int} (h : ∀ c, 0 ≤ c → c < 48 → ce c = ce' c) (p0 : 0 ≤ p) (p1 : p < 6) : TKm s ce k p ↔ TKm s ce' k p := by
  unfold TKm
  rw [FDm_ce h p0 p1]
  constructor
  · rintro (a | ⟨q, q0, q1, a, b, c⟩)
    · exact Or.inl a
    · exact Or.inr ⟨q, q0, q1, a, (DFm_ce h q0 (by omega)).mp b, (SMm_ce h p0 p1 q0 (by omega)).mp c⟩
  · rintro (a | ⟨q, q0, q1, a, b, c⟩)
    · exact Or.inl a
    · exact Or.inr ⟨q, q0, q1, a, (DFm_ce h q0 (by omega)).mpr b, (SMm_ce h p0 p1 q0 (by omega)).mpr c⟩
theorem NDm_ce {s ce ce' : Int → Int} {k : Int} (h : ∀ c, 0 ≤ c → c < 48 → ce c = ce' c) : NDm s ce k = NDm s ce' k := by
  unfold NDm
  refine sm_congr (fun q q0 q1 => b2i_iff ?_)
  rw [DFm_ce h q0 q1, TKm_ce h q0 q1]
theorem FITm_ce {s ce ce' : Int → Int} {b : Int} (h : ∀ c, 0 ≤ c → c < 48 → ce c = ce' c) : FITm s ce b ↔ FITm s ce' b := by
  unfold FITm; rw [NDm_ce h]
theorem mkM_ce {s ce ce' : Int → Int} {b p : Int} (h : ∀ c, 0 ≤ c → c < 48 → ce c = ce' c) (p0 : 0 ≤ p) (p1 : p < 6) : mkM s ce b p = mkM s ce' b p := by
  unfold mkM
  congr 1
  funext j
  unfold cpI
  by_cases hj : 138 + 9 * b + 1 ≤ j ∧ j < 138 + 9 * b + 1 + 8
  · rw [if_pos hj, if_pos hj]; exact h _ (by omega) (by omega)
  · rw [if_neg hj, if_neg hj]
theorem wrR_ce {s ce ce' s' : Int → Int} {fr k : Int} {p : Nat} (h : ∀ c, 0 ≤ c → c < 48 → ce c = ce' c) (hp : p < 6) (g : wrR ce fr k s p s') : wrR ce' fr k s p s' := by
  rcases g with ⟨a, e⟩ | ⟨a, r, s1, hb, e⟩
  · exact Or.inl ⟨fun z => a ((DFm_ce h (by omega) (by omega)).mpr z), e⟩
  · refine Or.inr ⟨(DFm_ce h (by omega) (by omega)).mp a, r, s1, ?_, e⟩
    rcases hb with ⟨a1, a2, a3, a4⟩ | ⟨a1, a2, a3, a4, a5, a6⟩
    · rw [FDm_ce h (by omega) (by omega)] at a2 a3
      exact Or.inl ⟨a1, a2, a3, a4⟩
    · rw [FDm_ce h (by omega) (by omega)] at a1
      exact Or.inr ⟨a1, a2, a3, a4, a5, by rw [← mkM_ce h (by omega) (by omega)]; exact a6⟩
theorem wrC_ce {s ce ce' : Int → Int} {fr k : Int} (h : ∀ c, 0 ≤ c → c < 48 → ce c = ce' c) : ∀ {p : Nat} {s' : Int → Int}, p ≤ 6 → wrC ce fr k s p s' → wrC ce' fr k s p s'
  | 0, _, _, g => g
  | _ + 1, _, hp, ⟨sp, g, g'⟩ => ⟨sp, wrC_ce h (by omega) g, wrR_ce h (by omega) g'⟩
/-! the end of a write -/
theorem wr9_e {s6 : Int → Int} {b num j : Int} (h0 : j ≠ 0) (h1 : j ≠ 1) (hb : j ≠ 6 + b) : wr9 s6 b num j = s6 j := by
  unfold wr9; rw [updI_n hb, updI_n h1, updI_n h0]
theorem wr9_0 {s6 : Int → Int} {b num : Int} (hb : 0 ≤ b) : wr9 s6 b num 0 = s6 0 + 1 := by
  unfold wr9; rw [updI_n (by omega), updI_n (by omega), updI_s]
theorem wr9_11 {s6 : Int → Int} {b num : Int} (hb : 0 ≤ b) : wr9 s6 b num 1 = s6 1 + 1 := by
  unfold wr9; rw [updI_n (by omega), updI_s]
theorem wr9_b {s6 : Int → Int} {b num : Int} : wr9 s6 b num (6 + b) = num := by
  unfold wr9; rw [updI_s]
/-- the numbers behind a write: what is new, what is as it was -/
theorem wr_out {s ce s6 : Int → Int} {b : Int} (hW : WB s b) (hc : wrC ce (mS s (mh s b)) (s 0) (wr0 s b) 6 s6) :
    (wr9 s6 b (s 1)) 0 = s 0 + 1 ∧ (wr9 s6 b (s 1)) 1 = s 1 + 1 ∧ (wr9 s6 b (s 1)) 4 = s 4 ∧ (wr9 s6 b (s 1)) 5 = s 5 ∧ mh (wr9 s6 b (s 1)) b = s 1 ∧ (∀ d, 0 ≤ d → d < 4 → d ≠ b → mh (wr9 s6 b (s 1)) d = mh s d) ∧
    (∀ k j, 0 ≤ k → k < 16 → k ≠ s 0 → 0 ≤ j → j < 8 → mo (wr9 s6 b (s 1)) k j = mo s k j) ∧ mo (wr9 s6 b (s 1)) (s 0) 0 = s 1 ∧ mo (wr9 s6 b (s 1)) (s 0) 1 = mh s b ∧
    (∀ q, 0 ≤ q → mo (wr9 s6 b (s 1)) (s 0) (2 + q) = mo s6 (s 0) (2 + q)) ∧ (∀ d, 0 ≤ d → mf (wr9 s6 b (s 1)) d = mf s6 d) ∧ (∀ d c, 0 ≤ d → 0 ≤ c → mb (wr9 s6 b (s 1)) d c = mb s6 d c) := by
  have J := JW_c hW ce 6 s6 (by omega) hc
  have hz := hW.1.z
  have b0 := hW.2.2.1
  have b1 := hW.2.2.2.1
  have h16 := hW.2.1
  have J1 := J.1
  have e6 : (((6 : Nat) : Int)) = 6 := rfl
  rw [e6] at J1
  have hlow : ∀ j, j = 0 ∨ j = 1 ∨ j = 4 ∨ (5 ≤ j ∧ j < 10 + 8 * s 0) ∨ (10 + 8 * s 0 + 8 ≤ j ∧ j < 138) → s6 j = s j := fun j hj => (J1 j (by omega)).trans (wr0_e (by omega) (by omega))
  refine ⟨?_, ?_, ?_, ?_, wr9_b, fun d d0 d1 dn => ?_, fun k j k0 k1 kn j0 j1 => ?_, ?_, ?_, fun q q0 => ?_, fun d d0 => ?_, fun d c d0 c0 => ?_⟩
  · rw [wr9_0 b0, hlow 0 (by omega)]
  · rw [wr9_11 b0, hlow 1 (by omega)]
  · rw [wr9_e (by omega) (by omega) (by omega), hlow 4 (by omega)]
  · rw [wr9_e (by omega) (by omega) (by omega), hlow 5 (by omega)]
  · unfold mh; rw [wr9_e (by omega) (by omega) (by omega), hlow _ (by omega)]
  · unfold mo; rw [wr9_e (by omega) (by omega) (by omega), hlow _ (by omega)]
  · unfold mo; rw [wr9_e (by omega) (by omega) (by omega), J1 _ (by omega), Int.add_zero, wr0_num]
  · unfold mo; rw [wr9_e (by omega) (by omega) (by omega), J1 _ (by omega), wr0_par]
  · unfold mo; rw [wr9_e (by omega) (by omega) (by omega)]
  · unfold mf; rw [wr9_e (by omega) (by omega) (by omega)]
  · unfold mb; rw [wr9_e (by omega) (by omega) (by omega)]
/-- how many places have a block behind a write -/
theorem wr_pw {s ce s6 : Int → Int} {b : Int} (hW : WB s b) (hc : wrC ce (mS s (mh s b)) (s 0) (wr0 s b) 6 s6) (d : Int) : pwM (wr9 s6 b (s 1)) d = pwM s d + sm 6 (fun q => b2i (mo s6 (s 0) (2 + q) = d)) := by
  obtain ⟨h0, h1, h4, h5, hb, hd, hk, hn0, hn1, hnp, hf, hm⟩ := wr_out hW hc
  have hz := hW.1.z
  have h16 := hW.2.1
  unfold pwM
  rw [h0, sm_s (by omega)]
  congr 1
  · refine sm_congr (fun k k0 k1 => sm_congr (fun q q0 q1 => ?_))
    rw [hk k (2 + q) k0 (by omega) (by omega) (by omega) (by omega)]
  · refine sm_congr (fun q q0 q1 => ?_)
    rw [hnp q q0]
theorem MV_wr {s ce s6 : Int → Int} {b : Int} (hW : WB s b) (hc : wrC ce (mS s (mh s b)) (s 0) (wr0 s b) 6 s6) : MV (wr9 s6 b (s 1)) := by
  obtain ⟨h0, h1, h4, h5, hb, hd, hk, hn0, hn1, hnp, hf, hm⟩ := wr_out hW hc
  have hpw := wr_pw hW hc
  have J := JW_c hW ce 6 s6 (by omega) hc
  have hM := hW.1
  have hz := hM.z
  have h16 := hW.2.1
  have hfr := hW.fr
  have e6 : (((6 : Nat) : Int)) = 6 := rfl
  obtain ⟨J1, J2, J3, J4, J5, J6⟩ := J
  rw [e6] at J4 J5
  generalize ht : wr9 s6 b (s 1) = t at *
  have hold : ∀ k, 0 ≤ k → k < s 0 → mo t k 0 = mo s k 0 := fun k k0 k1 => hk k 0 k0 (by omega) (by omega) (by omega) (by omega)
  have hext : ∀ x, 0 ≤ mS s x → mS t x = mS s x := fun x hx => mS_ext hold (by omega) hx
  have hnum : mh s b < s 1 := by have := hM.n _ hfr.1 hfr.2.1; omega
  refine ⟨⟨?_, ?_, fun i j i0 ij jn => ?_, fun k k0 kn => ?_, by omega, by omega⟩, fun k p k0 k1 p0 p1 => ?_, fun d d0 d1 => ?_, fun k p k0 k1 p0 p1 => ?_, fun d d0 d1 => ?_, fun k k0 k1 => ?_, by rw [h5]; exact hM.g, fun d d0 d1 g => ?_⟩
  · rw [hold 0 (by omega) (by omega)]; exact hM.i.1
  · rw [hk 0 1 (by omega) (by omega) (by omega) (by omega) (by omega)]; exact hM.i.2.1
  · rcases Int.lt_or_le j (s 0) with q | q
    · rw [hold i i0 (by omega), hold j (by omega) q]; exact hM.i.2.2.1 i j i0 ij q
    · have e : j = s 0 := by omega
      rw [e, hn0, hold i i0 (by omega)]; exact hM.n i i0 (by omega)
  · rcases Int.lt_or_le k (s 0) with q | q
    · rw [hold k (by omega) q, hk k 1 (by omega) (by omega) (by omega) (by omega) (by omega)]
      have z := hM.i.2.2.2.1 k k0 q
      rw [hext _ z.1]; exact z
    · have e : k = s 0 := by omega
      rw [e, hn0, hn1, hext _ hfr.1]; exact ⟨hfr.1, hnum⟩
  · by_cases e : k = s 0
    · rw [e, hnp p p0]
      have z := J5 p p0 p1
      exact ⟨z.1, z.2.1⟩
    · rw [hk k (2 + p) k0 k1 e (by omega) (by omega)]; exact hM.l k p k0 k1 p0 p1
  · rw [hf d d0]; exact J2 d d0 d1
  · by_cases e : k = s 0
    · rw [e, hnp p p0]
      have z := J5 p p0 p1
      rw [hf _ z.1]; exact z.2.2.1
    · rw [hk k (2 + p) k0 (by omega) e (by omega) (by omega)]
      have z := hM.l k p k0 (by omega) p0 p1
      rw [hf _ z.1]; exact (J3 _ z.1 z.2 (hM.u k p k0 (by omega) p0 p1)).1
  · by_cases e : d = b
    · rw [e, hb]
      exact Or.inr ⟨by have := hW.2.2.2.2; omega, mS_ex (k := s 0) (by omega) (by omega) hn0⟩
    · rw [hd d d0 d1 e]
      rcases hM.h d d0 d1 with z | z
      · exact Or.inl z
      · exact Or.inr ⟨z.1, by rw [hext _ z.2]; exact z.2⟩
  · rw [h1]
    by_cases e : k = s 0
    · rw [e, hn0]; omega
    · rw [hold k k0 (by omega)]
      have := hM.n k k0 (by omega)
      omega
  · rw [hf d d0] at g
    rw [hpw d]
    have n1 := pwM_nn (s := s) (b := d)
    have n2 := sm_b2i_pos (n := 6) (p := fun q => mo s6 (s 0) (2 + q) = d)
    have n3 := sm_nn (n := 6) (f := fun q => b2i (mo s6 (s 0) (2 + q) = d)) (fun j _ _ => (b2i_b _).1)
    rcases J4 d d0 d1 g with z | ⟨q, q0, q1, -, hq, -⟩
    · have := hM.w d d0 d1 z
      omega
    · have := n2.mpr ⟨q, q0, q1, hq⟩
      omega
