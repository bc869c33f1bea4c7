/-! ===== the answers with many cases ===== -/
theorem ite_cg {c : Prop} {d d' : Decidable c} {a a' b b' : Int} (h1 : c → a = a') (h2 : ¬ c → b = b') : @ite Int c d a b = @ite Int c d' a' b' := by
  by_cases h : c
  · rw [if_pos h, if_pos h]; exact h1 h
  · rw [if_neg h, if_neg h]; exact h2 h
section RD2
variable {V : Vt} {w : Nat} {s : Int → Int}
theorem eq_stateOf (hR : RW V w s) (x what : Int) : (if (fnd (V 4 w 3) (fun k => V 5 w k = x)) < 0 then -1000001 else if what = 0 then fO (V 6 w (fnd (V 4 w 3) (fun k => V 5 w k = x))) else if what = 1 then sm (V 4 w 3) (fun j => b2i ((fnd (V 4 w 3) (fun k => V 5 w k = x)) < j ∧ V 6 w j = V 5 w (fnd (V 4 w 3) (fun k => V 5 w k = x)))) else if what = 2 then itS (pS (V 4 w 3) (V 5 w) (V 6 w)) 16 (fnd (V 4 w 3) (fun k => V 5 w k = x)) else if what = 3 then sm 6 (fun p => sm 8 (fun i => V 2 w (V 7 w ((fnd (V 4 w 3) (fun k => V 5 w k = x)) * 6 + p) * 8 + i))) else if what = 4 then (if (fnd (V 4 w 3) (fun k => V 5 w k = x)) = 0 then -1000004 else sm 6 (fun p => b2i (¬ V 7 w ((fnd (V 4 w 3) (fun k => V 5 w k = x)) * 6 + p) = V 7 w (fnd (V 4 w 3) (fun k => V 5 w k = V 6 w (fnd (V 4 w 3) (fun k => V 5 w k = x))) * 6 + p)))) else if what = 5 then sm 6 (fun q => b2i (V 3 w (V 7 w ((fnd (V 4 w 3) (fun k => V 5 w k = x)) * 6 + q)) = sm 6 (fun p => b2i (V 7 w ((fnd (V 4 w 3) (fun k => V 5 w k = x)) * 6 + p) = V 7 w ((fnd (V 4 w 3) (fun k => V 5 w k = x)) * 6 + q))))) else if what = 6 then sm 6 (fun p => b2i (∀ e, 0 ≤ e → e < p → ¬ V 7 w ((fnd (V 4 w 3) (fun k => V 5 w k = x)) * 6 + e) = V 7 w ((fnd (V 4 w 3) (fun k => V 5 w k = x)) * 6 + p))) else if what = 7 then bits 4 (fun b => V 8 w b = x) else -1000001) =
    (if mS s x < 0 ∨ what < 0 ∨ 7 < what then -1000001 else if what = 0 then (if mS s x = 0 then -1000004 else mo s (mS s x) 1) else if what = 1 then sm (s 0) (fun k => b2i (mo s k 1 = x)) else if what = 2 then itS (gM s) 16 x else if what = 3 then sm 48 (fun c => mc s (mS s x) c) else if what = 4 then (if mS s x = 0 then -1000004 else sm 6 (fun p => b2i (¬ mo s (mS s x) (2 + p) = mo s (mS s (mo s (mS s x) 1)) (2 + p)))) else if what = 5 then sm 6 (fun p => b2i (sm (s 0) (fun j => b2i (∃ q, 0 ≤ q ∧ q < 6 ∧ mo s j (2 + q) = mo s (mS s x) (2 + p))) = 1)) else if what = 6 then sm 40 (fun b => b2i (∃ p, 0 ≤ p ∧ p < 6 ∧ mo s (mS s x) (2 + p) = b)) else bits 4 (fun b => mh s b = x)) := by
  rw [hR.slot x, hR.slot (V 6 w (mS s x))]
  by_cases hx : mS s x < 0
  · rw [if_pos hx, if_pos (Or.inl hx)]
  · rw [if_neg hx]
    by_cases hw : what < 0 ∨ 7 < what
    · rw [if_pos (show mS s x < 0 ∨ what < 0 ∨ 7 < what from Or.inr hw), if_neg (show ¬ what = 0 by omega), if_neg (show ¬ what = 1 by omega), if_neg (show ¬ what = 2 by omega), if_neg (show ¬ what = 3 by omega), if_neg (show ¬ what = 4 by omega), if_neg (show ¬ what = 5 by omega), if_neg (show ¬ what = 6 by omega), if_neg (show ¬ what = 7 by omega)]
    · rw [if_neg (show ¬ (mS s x < 0 ∨ what < 0 ∨ 7 < what) by omega)]
      have h0 : 0 ≤ mS s x := by omega
      have hxx := mS_in h0
      have hst := hR.st _ h0 hxx.1
      refine ite_cg (fun _ => ?_) (fun n0 => ite_cg (fun _ => ?_) (fun n1 => ite_cg (fun _ => ?_) (fun n2 => ite_cg (fun _ => ?_) (fun n3 => ite_cg (fun _ => ite_cg (fun _ => rfl) (fun hz => ?_)) (fun n4 => ite_cg (fun _ => ?_) (fun n5 => ite_cg (fun _ => ?_) (fun n6 => ?_)))))))
      · rw [hst.2]
        by_cases hz : mS s x = 0
        · rw [if_pos hz, hz, hR.m.i.2.1]; rfl
        · rw [if_neg hz]
          have hd := hR.m.i.down (a := mS s x) (by omega) hxx.1
          exact fO_t (hR.m.i.nn hd.1).1
      · rw [hR.chl h0 hxx.1, hxx.2]
      · rw [hR.stp 16 _ h0 hxx.1, hxx.2]
      · rw [hR.sums h0 hxx.1]
      · rw [hst.2]
        have hd := hR.m.i.down (a := mS s x) (by omega) hxx.1
        exact sm_congr (fun p p0 p1 => by rw [hR.pl _ p h0 hxx.1 p0 p1, hR.pl _ p hd.1 (by omega) p0 p1])
      · exact sm_congr (fun p p0 p1 => b2i_iff (hR.own h0 hxx.1 p0 p1))
      · exact hR.blk h0 hxx.1
      · rw [if_pos (show what = 7 by omega)]
        exact bits_congr (fun b b0 b1 => by rw [hR.hd b b0 b1])
theorem eq_blockOf (hR : RW V w s) (b what : Int) : (if ¬ (0 ≤ b ∧ b < 40 ∧ 0 < V 3 w b) then -1000001 else if what = 0 then V 3 w b else if what = 1 then sm (V 4 w 3) (fun k => b2i (0 < sm 6 (fun p => b2i (V 7 w (k * 6 + p) = b)))) else if what = 2 then sm 8 (fun i => V 2 w (b * 8 + i)) else if what = 3 then bits 8 (fun i => V 2 w (b * 8 + i) ≠ 0) else if what = 4 then fO (fnd 40 (fun o => o ≠ b ∧ V 3 w o ≠ 0 ∧ eq8 (V 2 w) (V 2 w) (o * 8) (b * 8))) else -1000001) =
    (if ¬ (0 ≤ b ∧ b ≤ 39 ∧ mf s b = 1) ∨ what < 0 ∨ 4 < what then -1000001 else if what = 0 then pwM s b else if what = 1 then sm (s 0) (fun k => b2i (∃ p, 0 ≤ p ∧ p < 6 ∧ mo s k (2 + p) = b)) else if what = 2 then sm 8 (fun c => mb s b c) else if what = 3 then bits 8 (fun c => mb s b c ≠ 0) else fO (fnd 40 (fun o => ¬ o = b ∧ (0 ≤ o ∧ o ≤ 39 ∧ mf s o = 1) ∧ ∀ c, 0 ≤ c → c < 8 → mb s o c = mb s b c))) := by
  have hb := hR.bis b
  by_cases hx : 0 ≤ b ∧ b < 40 ∧ 0 < V 3 w b
  · rw [if_neg (fun z => z hx)]
    have b0 := hx.1
    have b1 := hx.2.1
    by_cases hw : what < 0 ∨ 4 < what
    · rw [if_pos (show ¬ (0 ≤ b ∧ b ≤ 39 ∧ mf s b = 1) ∨ what < 0 ∨ 4 < what from Or.inr hw), if_neg (show ¬ what = 0 by omega), if_neg (show ¬ what = 1 by omega), if_neg (show ¬ what = 2 by omega), if_neg (show ¬ what = 3 by omega), if_neg (show ¬ what = 4 by omega)]
    · rw [if_neg (show ¬ (¬ (0 ≤ b ∧ b ≤ 39 ∧ mf s b = 1) ∨ what < 0 ∨ 4 < what) from fun z => z.elim (fun y => y (hb.mp hx)) hw)]
      refine ite_cg (fun _ => hR.us b b0 b1) (fun n0 => ite_cg (fun _ => ?_) (fun n1 => ite_cg (fun _ => ?_) (fun n2 => ite_cg (fun _ => ?_) (fun n3 => ?_))))
      · rw [hR.n0]
        refine sm_congr (fun k k0 k1 => b2i_iff ?_)
        rw [hR.pl6 k0 k1, sm_b2i_pos]
      · exact sm_congr (fun c c0 c1 => hR.bc b c b0 b1 c0 c1)
      · exact bits_congr (fun c c0 c1 => by rw [hR.bc b c b0 b1 c0 c1])
      · rw [if_pos (show what = 4 by omega)]
        congr 1
        refine fnd_congr (fun o o0 o1 => ?_)
        have hu := hR.m.p o0 o1
        have hn := pwM_nn (s := s) (b := o)
        rw [hR.us o o0 o1]
        constructor
        · rintro ⟨a, x, y⟩
          exact ⟨a, ⟨o0, by omega, hu.mpr (by omega)⟩, fun c c0 c1 => by rw [← hR.bc o c o0 o1 c0 c1, ← hR.bc b c b0 b1 c0 c1]; exact y c c0 c1⟩
        · rintro ⟨a, x, y⟩
          exact ⟨a, by have := hu.mp x.2.2; omega, fun c c0 c1 => by rw [hR.bc o c o0 o1 c0 c1, hR.bc b c b0 b1 c0 c1]; exact y c c0 c1⟩
  · rw [if_pos hx, if_pos (Or.inl (fun z => hx (hb.mpr z)))]
theorem eq_unlike (hR : RW V w s) (x y what : Int) : (if (fnd (V 4 w 3) (fun k => V 5 w k = x)) < 0 ∨ (fnd (V 4 w 3) (fun k => V 5 w k = y)) < 0 then -1000001 else if what = 0 then sm 48 (fun c => b2i (¬ cA (V 2 w) (V 7 w) (fnd (V 4 w 3) (fun k => V 5 w k = x)) c = cA (V 2 w) (V 7 w) (fnd (V 4 w 3) (fun k => V 5 w k = y)) c)) else if what = 1 then fO (fnd 48 (fun c => ¬ cA (V 2 w) (V 7 w) (fnd (V 4 w 3) (fun k => V 5 w k = x)) c = cA (V 2 w) (V 7 w) (fnd (V 4 w 3) (fun k => V 5 w k = y)) c)) else if what = 2 then sm 6 (fun p => b2i (¬ V 7 w ((fnd (V 4 w 3) (fun k => V 5 w k = x)) * 6 + p) = V 7 w ((fnd (V 4 w 3) (fun k => V 5 w k = y)) * 6 + p))) else if what = 3 then nO (V 4 w 3) (V 5 w) (cmS (pS (V 4 w 3) (V 5 w) (V 6 w)) 32 (fnd (V 4 w 3) (fun k => V 5 w k = x)) (fnd (V 4 w 3) (fun k => V 5 w k = y))) else -1000001) =
    (if mS s x < 0 ∨ mS s y < 0 ∨ what < 0 ∨ 3 < what then -1000001 else if what = 0 then sm 48 (fun c => b2i (¬ mc s (mS s x) c = mc s (mS s y) c)) else if what = 1 then fO (fnd 48 (fun c => ¬ mc s (mS s x) c = mc s (mS s y) c)) else if what = 2 then sm 6 (fun p => b2i (¬ mo s (mS s x) (2 + p) = mo s (mS s y) (2 + p))) else cmM s y 16 x) := by
  rw [hR.slot x, hR.slot y]
  by_cases hx : mS s x < 0 ∨ mS s y < 0
  · rw [if_pos hx, if_pos (hx.elim Or.inl (fun z => Or.inr (Or.inl z)))]
  · rw [if_neg hx]
    by_cases hw : what < 0 ∨ 3 < what
    · rw [if_pos (show mS s x < 0 ∨ mS s y < 0 ∨ what < 0 ∨ 3 < what from Or.inr (Or.inr hw)), if_neg (show ¬ what = 0 by omega), if_neg (show ¬ what = 1 by omega), if_neg (show ¬ what = 2 by omega), if_neg (show ¬ what = 3 by omega)]
    · rw [if_neg (show ¬ (mS s x < 0 ∨ mS s y < 0 ∨ what < 0 ∨ 3 < what) by omega)]
      have x0 : 0 ≤ mS s x := by omega
      have y0 : 0 ≤ mS s y := by omega
      have hxx := mS_in x0
      have hyy := mS_in y0
      refine ite_cg (fun _ => ?_) (fun n0 => ite_cg (fun _ => ?_) (fun n1 => ite_cg (fun _ => ?_) (fun n2 => ?_)))
      · exact sm_congr (fun c c0 c1 => by rw [hR.cell x0 hxx.1 c0 c1, hR.cell y0 hyy.1 c0 c1])
      · congr 1
        exact fnd_congr (fun c c0 c1 => by rw [hR.cell x0 hxx.1 c0 c1, hR.cell y0 hyy.1 c0 c1])
      · exact sm_congr (fun p p0 p1 => by rw [hR.pl _ p x0 hxx.1 p0 p1, hR.pl _ p y0 hyy.1 p0 p1])
      · rw [if_pos (show what = 3 by omega)]
        have z := hR.cm x0 hxx.1 y0 hyy.1
        rw [hxx.2, hyy.2] at z
        rw [nO_t z.1 (by have := hR.n0; omega), z.2.2, (hR.st _ z.1 z.2.1).1]
theorem eq_frees (hR : RW V w s) {x r r' : Int} (h : r = (if (fnd (V 4 w 3) (fun k => V 5 w k = x)) < 0 then -1000001 else @ite _ (0 < (fnd (V 4 w 3) (fun k => V 5 w k = x)) ∧ bits 4 (fun b => V 8 w b = V 5 w (fnd (V 4 w 3) (fun k => V 5 w k = x))) = 0) (Classical.propDecidable _) (sm 6 (fun q => b2i (V 3 w (V 7 w ((fnd (V 4 w 3) (fun k => V 5 w k = x)) * 6 + q)) = sm 6 (fun p => b2i (V 7 w ((fnd (V 4 w 3) (fun k => V 5 w k = x)) * 6 + p) = V 7 w ((fnd (V 4 w 3) (fun k => V 5 w k = x)) * 6 + q))) ∧ ∀ e, 0 ≤ e → e < q → ¬ V 7 w ((fnd (V 4 w 3) (fun k => V 5 w k = x)) * 6 + e) = V 7 w ((fnd (V 4 w 3) (fun k => V 5 w k = x)) * 6 + q)))) (-1000002)))
    (h' : (¬ 0 ≤ fO (mS s x) ∧ r' = -1000001) ∨ (0 ≤ fO (mS s x) ∧ ¬ (0 < x ∧ ∀ d, 0 ≤ d → d < 4 → ¬ mh s d = x) ∧ r' = -1000002) ∨ (0 ≤ fO (mS s x) ∧ (0 < x ∧ ∀ d, 0 ≤ d → d < 4 → ¬ mh s d = x) ∧ r' = sm 40 (fun b => b2i (mf (fgX s x) b = 1 ∧ pwM (fgX s x) b = 0)))) : r = r' := by
  have hf := fO_nn (x := mS s x)
  rw [hR.slot x] at h
  rcases h' with ⟨a, rfl⟩ | ⟨a, b, rfl⟩ | ⟨a, b, rfl⟩
  · rw [if_pos (by omega)] at h; exact h
  · have x0 := hf.mp a
    rw [if_neg (by omega), if_neg (fun z => b ((hR.can x0).mp z))] at h; exact h
  · have x0 := hf.mp a
    have hxx := mS_in x0
    have z := hR.fre x0 hxx.1
    rw [hxx.2] at z
    rw [if_neg (by omega), if_pos ((hR.can x0).mpr b), z] at h; exact h
theorem eq_heaviest (hR : RW V w s) {what r r' : Int} (h : r = (if ¬ (0 ≤ what ∧ what < 2) then -1000001 else if what = 0 then fO (hvR (fgF V w) (V 5 w) (V 4 w 3).toNat).1 else fO (hvR (fgF V w) (V 5 w) (V 4 w 3).toNat).2))
    (h' : (¬ (0 ≤ what ∧ what ≤ 1) ∧ r' = -1000001) ∨ ((0 ≤ what ∧ what ≤ 1) ∧ r' = if hvS (frV s) (fun j => mo s j 0) (s 0).toNat < 0 then hvS (frV s) (fun j => mo s j 0) (s 0).toNat else if what = 0 then hvS (frV s) (fun j => mo s j 0) (s 0).toNat else hvM (frV s) (s 0).toNat)) : r = r' := by
  have hz := hR.m.z
  rw [hR.n0] at h
  have hv := hR.hev (s 0).toNat (by omega)
  rcases h' with ⟨a, rfl⟩ | ⟨a, rfl⟩
  · rw [if_pos (by omega)] at h; exact h
  · rw [if_neg (by omega), hv.1] at h
    rcases hv.2 with ⟨h1, h2, h3⟩ | ⟨h1, h2, h3⟩
    · rw [h2, h1] at h
      rw [h3, if_pos (by omega), h]
      by_cases z : what = 0
      · rw [if_pos z]; rfl
      · rw [if_neg z]; rfl
    · rw [h2] at h
      rw [if_neg (by omega), h]
      by_cases z : what = 0
      · rw [if_pos z, if_pos z, fO_t h3]
      · rw [if_neg z, if_neg z, fO_t h1]
theorem eq_count (hR : RW V w s) (a9 a10 what : Int) : (if what = 0 then V 4 w 3 else if what = 1 then sm 4 (fun b => b2i (¬ V 8 w b = -1)) else if what = 2 then sm 40 (fun b => b2i (0 < V 3 w b)) else if what = 3 then V 4 w 3 * 6 else if what = 4 then sm 40 (fun b => b2i (0 < V 3 w b ∧ fnd 40 (fun a => V 3 w a ≠ 0 ∧ eq8 (V 2 w) (V 2 w) (a * 8) (b * 8)) < b)) else if what = 5 then V 4 w 4 else if what = 6 then V 1 w 2 else if what = 7 then V 1 w 3 else if what = 8 then V 0 w 5 else if what = 9 then a9 else if what = 10 then a10 else if what = 20 then V 0 w 4 else -1000001) =
    (if what = 0 then s 0 else if what = 1 then sm 4 (fun d => b2i (0 ≤ mh s d)) else if what = 2 then sm 40 (fun b => mf s b) else if what = 3 then 6 * s 0 else if what = 4 then sm 40 (fun b => b2i ((0 ≤ b ∧ b ≤ 39 ∧ mf s b = 1) ∧ llM s b < b)) else if what = 5 ∨ what = 6 ∨ what = 7 ∨ what = 8 then s (1 + what - 5) else if what = 9 then a9 else if what = 10 then a10 else if what = 20 then s 5 else -1000001) := by
  have e2 : sm 40 (fun b => b2i (0 < V 3 w b)) = sm 40 (fun b => mf s b) := sm_congr (fun b b0 b1 => by
    rw [hR.us b b0 b1]
    have hp := hR.m.p b0 b1
    rcases hR.m.f b b0 b1 with z | z
    · rw [z, b2i_f (fun y => by have := hp.mpr y; omega)]
    · rw [z, b2i_t (hp.mp z)])
  have e4 : sm 40 (fun b => b2i (0 < V 3 w b ∧ fnd 40 (fun a => V 3 w a ≠ 0 ∧ eq8 (V 2 w) (V 2 w) (a * 8) (b * 8)) < b)) = sm 40 (fun b => b2i ((0 ≤ b ∧ b ≤ 39 ∧ mf s b = 1) ∧ llM s b < b)) := sm_congr (fun b b0 b1 => b2i_iff (by
    have hp := hR.m.p b0 b1
    rw [hR.lls b0 b1, hR.us b b0 b1, ← hp]
    constructor
    · rintro ⟨x, y⟩; exact ⟨⟨b0, by omega, x⟩, y⟩
    · rintro ⟨x, y⟩; exact ⟨x.2.2, y⟩))
  rw [e2, e4, heads_sum hR, hR.n0, hR.n1, hR.c2, hR.c3, hR.c4, hR.c5, Int.mul_comm (s 0) 6]
  by_cases h5 : what = 5 ∨ what = 6 ∨ what = 7 ∨ what = 8
  · rcases h5 with rfl | rfl | rfl | rfl <;> rfl
  · rw [if_neg h5, if_neg (show ¬ what = 5 by omega), if_neg (show ¬ what = 6 by omega), if_neg (show ¬ what = 7 by omega), if_neg (show ¬ what = 8 by omega)]
end RD2
