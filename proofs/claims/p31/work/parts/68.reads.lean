/-! ===== what the readings say ===== -/
noncomputable def soE (V : Vt) (w : Nat) (state what : Int) : Int := if (fnd (V 4 w 3) (fun k => V 5 w k = state)) < 0 then -1000001 else if what = 0 then fO (V 6 w (fnd (V 4 w 3) (fun k => V 5 w k = state))) else if what = 1 then sm (V 4 w 3) (fun j => b2i ((fnd (V 4 w 3) (fun k => V 5 w k = state)) < j ∧ V 6 w j = V 5 w (fnd (V 4 w 3) (fun k => V 5 w k = state)))) else if what = 2 then itS (pS (V 4 w 3) (V 5 w) (V 6 w)) 16 (fnd (V 4 w 3) (fun k => V 5 w k = state)) else if what = 3 then sm 6 (fun p => sm 8 (fun i => V 2 w (V 7 w ((fnd (V 4 w 3) (fun k => V 5 w k = state)) * 6 + p) * 8 + i))) else if what = 4 then (if (fnd (V 4 w 3) (fun k => V 5 w k = state)) = 0 then -1000004 else sm 6 (fun p => b2i (¬ V 7 w ((fnd (V 4 w 3) (fun k => V 5 w k = state)) * 6 + p) = V 7 w (fnd (V 4 w 3) (fun k => V 5 w k = V 6 w (fnd (V 4 w 3) (fun k => V 5 w k = state))) * 6 + p)))) else if what = 5 then sm 6 (fun q => b2i (V 3 w (V 7 w ((fnd (V 4 w 3) (fun k => V 5 w k = state)) * 6 + q)) = sm 6 (fun p => b2i (V 7 w ((fnd (V 4 w 3) (fun k => V 5 w k = state)) * 6 + p) = V 7 w ((fnd (V 4 w 3) (fun k => V 5 w k = state)) * 6 + q))))) else if what = 6 then sm 6 (fun p => b2i (∀ e, 0 ≤ e → e < p → ¬ V 7 w ((fnd (V 4 w 3) (fun k => V 5 w k = state)) * 6 + e) = V 7 w ((fnd (V 4 w 3) (fun k => V 5 w k = state)) * 6 + p))) else if what = 7 then bits 4 (fun b => V 8 w b = state) else -1000001
noncomputable def boE (V : Vt) (w : Nat) (block what : Int) : Int := if ¬ (0 ≤ block ∧ block < 40 ∧ 0 < V 3 w block) then -1000001 else if what = 0 then V 3 w block else if what = 1 then sm (V 4 w 3) (fun k => b2i (0 < sm 6 (fun p => b2i (V 7 w (k * 6 + p) = block)))) else if what = 2 then sm 8 (fun i => V 2 w (block * 8 + i)) else if what = 3 then bits 8 (fun i => V 2 w (block * 8 + i) ≠ 0) else if what = 4 then fO (fnd 40 (fun o => o ≠ block ∧ V 3 w o ≠ 0 ∧ eq8 (V 2 w) (V 2 w) (o * 8) (block * 8))) else -1000001
noncomputable def coE (V : Vt) (w : Nat) (what : Int) : Int := if what = 0 then V 4 w 3 else if what = 1 then sm 4 (fun b => b2i (¬ V 8 w b = -1)) else if what = 2 then sm 40 (fun b => b2i (0 < V 3 w b)) else if what = 3 then V 4 w 3 * 6 else if what = 4 then sm 40 (fun b => b2i (0 < V 3 w b ∧ fnd 40 (fun a => V 3 w a ≠ 0 ∧ eq8 (V 2 w) (V 2 w) (a * 8) (b * 8)) < b)) else if what = 5 then V 4 w 4 else if what = 6 then V 1 w 2 else if what = 7 then V 1 w 3 else if what = 8 then V 0 w 5 else if what = 9 then V 11 0 2 else if what = 10 then V 13 0 2 else if what = 20 then V 0 w 4 else -1000001
noncomputable def rdE (V : Vt) (w : Nat) (state cell : Int) : Int := if 0 ≤ (fnd (V 4 w 3) (fun k => V 5 w k = state)) ∧ 0 ≤ cell ∧ cell < 48 then cA (V 2 w) (V 7 w) (fnd (V 4 w 3) (fun k => V 5 w k = state)) cell else -1000001
noncomputable def baE (V : Vt) (w : Nat) (state place : Int) : Int := if 0 ≤ (fnd (V 4 w 3) (fun k => V 5 w k = state)) ∧ 0 ≤ place ∧ place < 6 then V 7 w ((fnd (V 4 w 3) (fun k => V 5 w k = state)) * 6 + place) else -1000001
noncomputable def nuE (V : Vt) (w : Nat) (index : Int) : Int := if index < 0 then -1000001 else fO (nO (V 4 w 3) (V 5 w) index)
noncomputable def hdE (V : Vt) (w : Nat) (b : Int) : Int := if 0 ≤ b ∧ b < 4 ∧ ¬ V 8 w b = -1 then V 8 w b else -1000001
section RDs
variable {V : Vt} {w : Nat} {s : Int → Int}
theorem RW.sl (hR : RW V w s) (hN : LN V s) {k : Int} (k0 : 0 ≤ k) (k1 : k < s 0) : fnd (V 4 w 3) (fun j => V 5 w j = V 18 0 k) = k := by
  rw [hR.slot, (hN.n k k0 k1).1]
  exact hR.m.i.slot k0 k1
theorem nu_end (hR : RW V w s) : nuE V w (s 0) = -1000004 := by
  have hz := hR.m.z
  unfold nuE
  rw [if_neg (by omega), nO_f (by rw [hR.n0]; omega), fO_f (by omega)]
theorem nu_neg : nuE V w (-1) = -1000001 := if_pos (by omega)
theorem nu_at (hR : RW V w s) (hN : LN V s) {k : Int} (k0 : 0 ≤ k) (k1 : k < s 0) : nuE V w k = V 18 0 k := by
  have a := (hR.st k k0 k1).1
  have b := (hN.n k k0 k1).1
  have c := (hR.pos k0 k1).2
  unfold nuE
  rw [if_neg (by omega), nO_t k0 (by rw [hR.n0]; exact k1), a, b, fO_t c]
theorem hd_at (hR : RW V w s) (hN : LN V s) {b : Int} (b0 : 0 ≤ b) (b1 : b < 4) : (V 17 0 b < 0 → hdE V w b = -1000001) ∧ (0 ≤ V 17 0 b → hdE V w b = V 17 0 b) := by
  have a := hR.hd b b0 b1
  have c := hN.h b b0 b1
  have d := hR.m.h b b0 b1
  unfold hdE
  constructor
  · intro z
    exact if_neg (fun y => y.2.2 (by omega))
  · intro z
    rw [if_pos ⟨b0, b1, by omega⟩]; omega
theorem hd_4 : hdE V w 4 = -1000001 := if_neg (fun z => by omega)
theorem ba_at (hR : RW V w s) (hN : LN V s) {k p : Int} (k0 : 0 ≤ k) (k1 : k < s 0) (p0 : 0 ≤ p) (p1 : p < 6) : baE V w (V 18 0 k) p = mo s k (2 + p) := by
  have e := hR.sl hN k0 k1
  unfold baE
  rw [e, if_pos ⟨k0, p0, p1⟩, hR.pl k p k0 k1 p0 p1]
theorem ba_6 {x : Int} : baE V w x 6 = -1000001 := if_neg (fun z => by omega)
theorem rd_at (hR : RW V w s) (hN : LN V s) {k c : Int} (k0 : 0 ≤ k) (k1 : k < s 0) (c0 : 0 ≤ c) (c1 : c < 48) : rdE V w (V 18 0 k) c = mc s k c := by
  have e := hR.sl hN k0 k1
  unfold rdE
  rw [e, if_pos ⟨k0, c0, c1⟩]
  exact hR.cell k0 k1 c0 c1
theorem rd_48 {x : Int} : rdE V w x 48 = -1000001 := if_neg (fun z => by omega)
theorem so_none (hR : RW V w s) : soE V w (s 1) 0 = -1000001 := by
  have e : fnd (V 4 w 3) (fun k => V 5 w k = s 1) = -1 := by
    rw [hR.slot]
    rcases mS_c s (s 1) with z | z
    · exact z.2.1
    · have := hR.m.n (mS s (s 1)) z.2.1 z.2.2.1; omega
  unfold soE
  rw [e, if_pos (by omega)]
theorem so_0 (hR : RW V w s) (hN : LN V s) {k : Int} (k0 : 0 ≤ k) (k1 : k < s 0) : (k = 0 → soE V w (V 18 0 k) 0 = -1000004) ∧ (¬ k = 0 → soE V w (V 18 0 k) 0 = V 19 0 k) := by
  have e := hR.sl hN k0 k1
  have a := (hR.st k k0 k1).2
  have b := (hN.n k k0 k1).2
  unfold soE
  rw [e, if_neg (by omega), if_pos rfl, a]
  constructor
  · intro z
    rw [z, hR.m.i.2.1]; rfl
  · intro z
    have hd := hR.m.i.down (a := k) (by omega) k1
    have hn := (hR.m.i.nn hd.1).1
    rw [fO_t hn, b]
theorem so_1 (hR : RW V w s) (hN : LN V s) {k : Int} (k0 : 0 ≤ k) (k1 : k < s 0) : soE V w (V 18 0 k) 1 = sm (V 16 0 0) (fun j => b2i (V 19 0 j = V 18 0 k)) := by
  have e := hR.sl hN k0 k1
  unfold soE
  rw [e, if_neg (by omega), if_neg (by decide), if_pos rfl, hR.chl k0 k1, hN.g0]
  exact sm_congr (fun j j0 j1 => by rw [(hN.n j j0 j1).2, (hN.n k k0 k1).1])
theorem so_2 (hR : RW V w s) (hN : LN V s) {k : Int} (k0 : 0 ≤ k) (k1 : k < s 0) : soE V w (V 18 0 k) 2 = itS (gM s) 16 (V 18 0 k) := by
  have e := hR.sl hN k0 k1
  unfold soE
  rw [e, if_neg (by omega), if_neg (by decide), if_neg (by decide), if_pos rfl, hR.stp 16 k k0 k1, (hN.n k k0 k1).1]
theorem so_3 (hR : RW V w s) (hN : LN V s) {k : Int} (k0 : 0 ≤ k) (k1 : k < s 0) : soE V w (V 18 0 k) 3 = sm 48 (fun c => mc s k c) := by
  have e := hR.sl hN k0 k1
  unfold soE
  rw [e, if_neg (by omega), if_neg (by decide), if_neg (by decide), if_neg (by decide), if_pos rfl]
  exact hR.sums k0 k1
theorem so_4 (hR : RW V w s) (hN : LN V s) {k : Int} (k0 : 0 ≤ k) (k1 : k < s 0) : (k = 0 → soE V w (V 18 0 k) 4 = -1000004) ∧ (¬ k = 0 → soE V w (V 18 0 k) 4 = sm 6 (fun p => b2i (0 < k ∧ ¬ mo s k (2 + p) = mo s (mS s (mo s k 1)) (2 + p)))) := by
  have e := hR.sl hN k0 k1
  unfold soE
  rw [e, if_neg (by omega), if_neg (by decide), if_neg (by decide), if_neg (by decide), if_neg (by decide), if_pos rfl]
  constructor
  · intro z; exact if_pos z
  · intro z
    have hd := hR.m.i.down (a := k) (by omega) k1
    have ep : fnd (V 4 w 3) (fun j => V 5 w j = V 6 w k) = mS s (mo s k 1) := by rw [hR.slot, (hR.st k k0 k1).2]
    rw [if_neg z]
    refine sm_congr (fun p p0 p1 => b2i_iff ?_)
    rw [ep, hR.pl k p k0 k1 p0 p1, hR.pl (mS s (mo s k 1)) p hd.1 (by omega) p0 p1]
    exact ⟨fun y => ⟨by omega, y⟩, fun y => y.2⟩
theorem so_5 (hR : RW V w s) (hN : LN V s) {k : Int} (k0 : 0 ≤ k) (k1 : k < s 0) : soE V w (V 18 0 k) 5 = sm 6 (fun p => b2i (lU (V 16 0 0) (V 20 0) 1 (mo s k (2 + p)) = 1)) := by
  have e := hR.sl hN k0 k1
  unfold soE
  rw [e, if_neg (by omega), if_neg (by decide), if_neg (by decide), if_neg (by decide), if_neg (by decide), if_neg (by decide), if_pos rfl]
  exact sm_congr (fun q q0 q1 => b2i_iff (by rw [hN.us1]; exact hR.own k0 k1 q0 q1))
theorem so_6 (hR : RW V w s) (hN : LN V s) {k : Int} (k0 : 0 ≤ k) (k1 : k < s 0) : soE V w (V 18 0 k) 6 = sm 6 (fun p => b2i (∀ e, 0 ≤ e → e < p → ¬ mo s k (2 + e) = mo s k (2 + p))) := by
  have e := hR.sl hN k0 k1
  unfold soE
  rw [e, if_neg (by omega), if_neg (by decide), if_neg (by decide), if_neg (by decide), if_neg (by decide), if_neg (by decide), if_neg (by decide), if_pos rfl]
  refine sm_congr (fun p p0 p1 => b2i_iff ?_)
  constructor
  · intro z i i0 i1
    rw [← hR.pl k i k0 k1 i0 (by omega), ← hR.pl k p k0 k1 p0 p1]; exact z i i0 i1
  · intro z i i0 i1
    rw [hR.pl k i k0 k1 i0 (by omega), hR.pl k p k0 k1 p0 p1]; exact z i i0 i1
theorem so_7 (hR : RW V w s) (hN : LN V s) {k : Int} (k0 : 0 ≤ k) (k1 : k < s 0) : soE V w (V 18 0 k) 7 = bits 4 (fun b => V 17 0 b = V 18 0 k) := by
  have e := hR.sl hN k0 k1
  unfold soE
  rw [e, if_neg (by omega), if_neg (by decide), if_neg (by decide), if_neg (by decide), if_neg (by decide), if_neg (by decide), if_neg (by decide), if_neg (by decide), if_pos rfl]
  exact bits_congr (fun b b0 b1 => by rw [hR.hd b b0 b1, hN.h b b0 b1])
theorem so_8 (hR : RW V w s) (hN : LN V s) {k : Int} (k0 : 0 ≤ k) (k1 : k < s 0) : soE V w (V 18 0 k) 8 = -1000001 := by
  have e := hR.sl hN k0 k1
  unfold soE
  rw [e, if_neg (by omega), if_neg (by decide), if_neg (by decide), if_neg (by decide), if_neg (by decide), if_neg (by decide), if_neg (by decide), if_neg (by decide), if_neg (by decide)]
/-! blocks -/
theorem RW.th (hR : RW V w s) (hN : LN V s) {b : Int} (b0 : 0 ≤ b) (b1 : b < 40) : 0 < V 3 w b ↔ 0 ≤ V 22 0 b := by
  rw [hR.us b b0 b1, hN.b.iff b0 b1]
  exact (hR.m.p b0 b1).symm
theorem bo_40 {x : Int} : boE V w 40 x = -1000001 := if_pos (fun z => by omega)
theorem bo_m1 {x : Int} : boE V w (-1) x = -1000001 := if_pos (fun z => by omega)
theorem bo_none (hR : RW V w s) (hN : LN V s) {b : Int} (b0 : 0 ≤ b) (b1 : b < 40) (h : V 22 0 b < 0) : boE V w b 0 = -1000001 := if_pos (fun z => by have := (hR.th hN b0 b1).mp z.2.2; omega)
theorem bo_t (hR : RW V w s) (hN : LN V s) {b : Int} (b0 : 0 ≤ b) (b1 : b < 40) (h : 0 ≤ V 22 0 b) : ¬ ¬ (0 ≤ b ∧ b < 40 ∧ 0 < V 3 w b) := fun z => z ⟨b0, b1, (hR.th hN b0 b1).mpr h⟩
theorem bo_0 (hR : RW V w s) (hN : LN V s) {b : Int} (b0 : 0 ≤ b) (b1 : b < 40) (h : 0 ≤ V 22 0 b) : boE V w b 0 = lU (V 16 0 0) (V 20 0) 0 b := by
  unfold boE
  rw [if_neg (bo_t hR hN b0 b1 h), if_pos rfl, hR.us b b0 b1, hN.us]
theorem bo_1 (hR : RW V w s) (hN : LN V s) {b : Int} (b0 : 0 ≤ b) (b1 : b < 40) (h : 0 ≤ V 22 0 b) : boE V w b 1 = lU (V 16 0 0) (V 20 0) 1 b := by
  unfold boE
  rw [if_neg (bo_t hR hN b0 b1 h), if_neg (by decide), if_pos rfl, hN.us1, hR.n0]
  exact sm_congr (fun k k0 k1 => b2i_iff (by
    rw [sm_b2i_pos]
    constructor
    · rintro ⟨p, p0, p1, z⟩; exact ⟨p, p0, p1, by rw [← hR.pl k p k0 k1 p0 p1]; exact z⟩
    · rintro ⟨p, p0, p1, z⟩; exact ⟨p, p0, p1, by rw [hR.pl k p k0 k1 p0 p1]; exact z⟩))
theorem bo_c (hR : RW V w s) (hN : LN V s) {b c : Int} (b0 : 0 ≤ b) (b1 : b < 40) (h : 0 ≤ V 22 0 b) (c0 : 0 ≤ c) (c1 : c < 8) : V 2 w (b * 8 + c) = cB (V 21 0 b) (V 22 0 b) c := by
  rw [hR.bc b c b0 b1 c0 c1, (hN.b.t b0 b1 ((hN.b.iff b0 b1).mp h)).2 c c0 c1]
theorem bo_2 (hR : RW V w s) (hN : LN V s) {b : Int} (b0 : 0 ≤ b) (b1 : b < 40) (h : 0 ≤ V 22 0 b) : boE V w b 2 = sm 8 (fun c => cB (V 21 0 b) (V 22 0 b) c) := by
  unfold boE
  rw [if_neg (bo_t hR hN b0 b1 h), if_neg (by decide), if_neg (by decide), if_pos rfl]
  exact sm_congr (fun c c0 c1 => bo_c hR hN b0 b1 h c0 c1)
theorem bo_3 (hR : RW V w s) (hN : LN V s) {b : Int} (b0 : 0 ≤ b) (b1 : b < 40) (h : 0 ≤ V 22 0 b) : boE V w b 3 = bits 8 (fun c => 0 < cB (V 21 0 b) (V 22 0 b) c) := by
  unfold boE
  rw [if_neg (bo_t hR hN b0 b1 h), if_neg (by decide), if_neg (by decide), if_neg (by decide), if_pos rfl]
  refine bits_congr (fun c c0 c1 => ?_)
  rw [bo_c hR hN b0 b1 h c0 c1]
  have := cB_bd (a := V 21 0 b) (b := V 22 0 b) (c := c)
  omega
theorem bo_like (hR : RW V w s) (hN : LN V s) {b o : Int} (b0 : 0 ≤ b) (b1 : b < 40) (h : 0 ≤ V 22 0 b) (o0 : 0 ≤ o) (o1 : o < 40) : (V 3 w o ≠ 0 ∧ eq8 (V 2 w) (V 2 w) (o * 8) (b * 8)) ↔ (0 ≤ V 22 0 o ∧ V 21 0 o = V 21 0 b ∧ V 22 0 o = V 22 0 b) := by
  have ht := hR.th hN o0 o1
  have hu := hR.U o
  have hb := (hN.b.iff b0 b1).mp h
  constructor
  · rintro ⟨z, y⟩
    have ho : 0 ≤ V 22 0 o := ht.mp (by omega)
    refine ⟨ho, (hN.b.eq2 hN.va hN.vb o0 o1 ((hN.b.iff o0 o1).mp ho) b0 b1 hb).mpr (fun c c0 c1 => ?_)⟩
    rw [← hR.bc o c o0 o1 c0 c1, ← hR.bc b c b0 b1 c0 c1]
    exact y c c0 c1
  · rintro ⟨ho, y⟩
    refine ⟨by have := ht.mpr ho; omega, fun c c0 c1 => ?_⟩
    rw [hR.bc o c o0 o1 c0 c1, hR.bc b c b0 b1 c0 c1]
    exact (hN.b.eq2 hN.va hN.vb o0 o1 ((hN.b.iff o0 o1).mp ho) b0 b1 hb).mp y c c0 c1
theorem bo_4 (hR : RW V w s) (hN : LN V s) {b : Int} (b0 : 0 ≤ b) (b1 : b < 40) (h : 0 ≤ V 22 0 b) : boE V w b 4 = fO (lkF (V 21 0) (V 22 0) (V 21 0 b) (V 22 0 b) b) := by
  unfold boE
  rw [if_neg (bo_t hR hN b0 b1 h), if_neg (by decide), if_neg (by decide), if_neg (by decide), if_neg (by decide), if_pos rfl]
  congr 1
  refine fnd_congr (fun o o0 o1 => ?_)
  have := bo_like hR hN b0 b1 h o0 o1
  constructor
  · rintro ⟨z, y⟩
    have q := this.mp y
    exact ⟨q.1, q.2.1, q.2.2, z⟩
  · rintro ⟨q1, q2, q3, z⟩
    exact ⟨z, this.mpr ⟨q1, q2, q3⟩⟩
theorem bo_5 (hR : RW V w s) (hN : LN V s) {b : Int} (b0 : 0 ≤ b) (b1 : b < 40) (h : 0 ≤ V 22 0 b) : boE V w b 5 = -1000001 := by
  unfold boE
  rw [if_neg (bo_t hR hN b0 b1 h), if_neg (by decide), if_neg (by decide), if_neg (by decide), if_neg (by decide), if_neg (by decide)]
theorem lU_pos (hM : MV s) (hN : LN V s) {b : Int} (b0 : 0 ≤ b) (b1 : b < 40) (h : 0 ≤ V 22 0 b) : 0 < lU (V 16 0 0) (V 20 0) 0 b := by
  rw [hN.us]; exact hM.w b b0 b1 ((hN.b.iff b0 b1).mp h)
/-- a block that is there and like one with a lower number -/
def pDb (A B : Int → Int) (b : Int) : Prop := 0 ≤ B b ∧ 0 ≤ lkF A B (A b) (B b) b ∧ lkF A B (A b) (B b) b < b
/-! counts -/
theorem cq_0 (hR : RW V w s) : coE V w 0 = s 0 := by unfold coE; rw [if_pos rfl]; exact hR.n0
theorem cq_1 (hR : RW V w s) (hN : LN V s) : coE V w 1 = sm 4 (fun b => b2i (0 ≤ V 17 0 b)) := by
  unfold coE
  rw [if_neg (by decide), if_pos rfl]
  refine sm_congr (fun b b0 b1 => b2i_iff ?_)
  have a := hR.hd b b0 b1
  have c := hN.h b b0 b1
  have d := hR.m.h b b0 b1
  omega
theorem cq_2 (hR : RW V w s) (hN : LN V s) : coE V w 2 = sm 40 (fun b => b2i (0 ≤ V 22 0 b)) := by
  unfold coE
  rw [if_neg (by decide), if_neg (by decide), if_pos rfl]
  exact sm_congr (fun b b0 b1 => b2i_iff (hR.th hN b0 b1))
theorem cq_3 (hR : RW V w s) : coE V w 3 = s 0 * 6 := by
  unfold coE
  rw [if_neg (by decide), if_neg (by decide), if_neg (by decide), if_pos rfl, hR.n0]
theorem cq_4 (hR : RW V w s) (hN : LN V s) : coE V w 4 = sm 40 (fun b => b2i (pDb (V 21 0) (V 22 0) b)) := by
  unfold coE
  rw [if_neg (by decide), if_neg (by decide), if_neg (by decide), if_neg (by decide), if_pos rfl]
  refine sm_congr (fun b b0 b1 => b2i_iff ?_)
  rw [hR.th hN b0 b1]
  unfold pDb
  constructor
  · rintro ⟨h, z⟩
    refine ⟨h, ?_⟩
    rcases fnd_c 40 (fun a => V 3 w a ≠ 0 ∧ eq8 (V 2 w) (V 2 w) (a * 8) (b * 8)) with ⟨_, y⟩ | ⟨y0, y1, y2, _⟩
    · have := (bo_like hR hN b0 b1 h b0 b1).mpr ⟨h, rfl, rfl⟩
      exact absurd this (y b b0 b1)
    · have q := (bo_like hR hN b0 b1 h y0 y1).mp y2
      rcases fnd_c 40 (fun k => 0 ≤ V 22 0 k ∧ V 21 0 k = V 21 0 b ∧ V 22 0 k = V 22 0 b ∧ k ≠ b) with ⟨_, x⟩ | ⟨x0, x1, x2, x3⟩
      · exact absurd ⟨q.1, q.2.1, q.2.2, by omega⟩ (x _ y0 y1)
      · refine ⟨x0, ?_⟩
        rcases Int.lt_or_le (lkF (V 21 0) (V 22 0) (V 21 0 b) (V 22 0 b) b) b with u | u
        · exact u
        · exact absurd ⟨q.1, q.2.1, q.2.2, by omega⟩ (x3 _ y0 (Int.lt_of_lt_of_le z u))
  · rintro ⟨h, x0, x1⟩
    refine ⟨h, ?_⟩
    rcases fnd_c 40 (fun k => 0 ≤ V 22 0 k ∧ V 21 0 k = V 21 0 b ∧ V 22 0 k = V 22 0 b ∧ k ≠ b) with ⟨e, _⟩ | ⟨_, y1, y2, _⟩
    · have e : lkF (V 21 0) (V 22 0) (V 21 0 b) (V 22 0 b) b = -1 := e
      omega
    · have q := (bo_like hR hN b0 b1 h x0 y1).mpr ⟨y2.1, y2.2.1, y2.2.2.1⟩
      rcases fnd_c 40 (fun a => V 3 w a ≠ 0 ∧ eq8 (V 2 w) (V 2 w) (a * 8) (b * 8)) with ⟨e, _⟩ | ⟨u0, u1, u2, u3⟩
      · rw [e]; omega
      · refine Int.lt_of_not_ge (fun v => ?_)
        exact u3 _ x0 (Int.lt_of_lt_of_le x1 v) q
theorem cq_5 (hR : RW V w s) : coE V w 5 = s 1 := by
  unfold coE
  rw [if_neg (by decide), if_neg (by decide), if_neg (by decide), if_neg (by decide), if_neg (by decide), if_pos rfl]; exact hR.n1
theorem cq_6 (hR : RW V w s) : coE V w 6 = s 2 := by
  unfold coE
  rw [if_neg (by decide), if_neg (by decide), if_neg (by decide), if_neg (by decide), if_neg (by decide), if_neg (by decide), if_pos rfl]; exact hR.c2
theorem cq_7 (hR : RW V w s) : coE V w 7 = s 3 := by
  unfold coE
  rw [if_neg (by decide), if_neg (by decide), if_neg (by decide), if_neg (by decide), if_neg (by decide), if_neg (by decide), if_neg (by decide), if_pos rfl]; exact hR.c3
theorem cq_8 (hR : RW V w s) : coE V w 8 = s 4 := by
  unfold coE
  rw [if_neg (by decide), if_neg (by decide), if_neg (by decide), if_neg (by decide), if_neg (by decide), if_neg (by decide), if_neg (by decide), if_neg (by decide), if_pos rfl]; exact hR.c4
theorem cq_10 (h : V 13 0 2 = 0) : coE V w 10 = 0 := by
  unfold coE
  rw [if_neg (by decide), if_neg (by decide), if_neg (by decide), if_neg (by decide), if_neg (by decide), if_neg (by decide), if_neg (by decide), if_neg (by decide), if_neg (by decide), if_neg (by decide), if_pos rfl]; exact h
theorem cq_10R (h : V 13 0 2 = 0) : inR (coE V w 10) := by rw [cq_10 h]; omega
theorem cq_20 (hR : RW V w s) : coE V w 20 = s 5 := by
  unfold coE
  rw [if_neg (by decide), if_neg (by decide), if_neg (by decide), if_neg (by decide), if_neg (by decide), if_neg (by decide), if_neg (by decide), if_neg (by decide), if_neg (by decide), if_neg (by decide), if_neg (by decide), if_pos rfl]; exact hR.c5
theorem cq_no {x : Int} (h : x = 11 ∨ x = 19 ∨ x = 21) : coE V w x = -1000001 := by
  unfold coE
  rw [if_neg (by omega), if_neg (by omega), if_neg (by omega), if_neg (by omega), if_neg (by omega), if_neg (by omega), if_neg (by omega), if_neg (by omega), if_neg (by omega), if_neg (by omega), if_neg (by omega), if_neg (by omega)]
end RDs
/-- steps down to the first state -/
def STx (s : Int → Int) (x0 st x : Int) : Prop := 0 ≤ mS s x ∧ inR x ∧ (0 ≤ st ∧ st + mS s x ≤ 16) ∧ ∃ N : Nat, mS s x < N ∧ st + itS (gM s) N x = itS (gM s) 16 x0
theorem STx_0 {s : Int → Int} {x0 : Int} (hM : MV s) (h : 0 ≤ mS s x0) (a : inR x0) : STx s x0 0 x0 := by
  have hz := hM.z
  have z := mS_in h
  exact ⟨h, a, by omega, 16, by omega, by omega⟩
theorem STx_s {s : Int → Int} {x0 st x : Int} (hM : MV s) (h : STx s x0 st x) (x1 : 0 < x) (hr : inR (mo s (mS s x) 1)) : STx s x0 (st + 1) (mo s (mS s x) 1) ∧ mS s (mo s (mS s x) 1) < mS s x := by
  obtain ⟨hx, rx, hst, N, hN, e⟩ := h
  have hp := hM.i.par1 hx x1
  obtain ⟨M, rfl⟩ : ∃ M, N = M + 1 := ⟨N - 1, by omega⟩
  refine ⟨⟨hp.1, hr, by omega, M, by omega, ?_⟩, hp.2.2⟩
  rw [itS_s x1] at e
  have e2 : itS (gM s) M (gM s x) = itS (gM s) M (mo s (mS s x) 1) := rfl
  omega
theorem STx_e {s : Int → Int} {x0 st x : Int} (h : STx s x0 st x) (x1 : x ≤ 0) : st = itS (gM s) 16 x0 := by
  obtain ⟨hx, rx, hst, N, hN, e⟩ := h
  rw [itS_0 x1] at e
  omega
/-! the law's last three ways -/
theorem t_fo0 {s s' : Int → Int} {x r : Int} (hx : 0 ≤ mS s x) (hn : ¬ (0 < x ∧ ∀ d, 0 ≤ d → d < 4 → ¬ mh s d = x)) (q : qFo s x r s') : r = -1000002 ∧ s' = s := by
  rcases q with ⟨z, _⟩ | ⟨_, _, a, b⟩ | ⟨_, z, _⟩
  · exact absurd (fO_nn.mpr hx) z
  · exact ⟨a, b⟩
  · exact absurd z hn
theorem t_fo {s s' : Int → Int} {x r : Int} (hF : FG s x) (q : qFo s x r s') : r = sm 40 (fun b => b2i (mf (fgX s x) b = 1 ∧ pwM (fgX s x) b = 0)) ∧ s' = swS (fgX s x) 40 := by
  rcases q with ⟨z, _⟩ | ⟨_, z, _⟩ | ⟨_, _, a, b⟩
  · exact absurd (fO_nn.mpr hF.2.1) z
  · exact absurd ⟨hF.2.2.1, hF.2.2.2⟩ z
  · exact ⟨a, b⟩
theorem t_se {s s' : Int → Int} {v r : Int} (hv : 0 ≤ v ∧ v ≤ 1) (q : qSe s 0 v r s') : r = s 5 ∧ s' = updI s 5 v := by
  rcases q with ⟨z, _⟩ | ⟨_, a, b⟩
  · exact absurd ⟨rfl, hv⟩ z
  · exact ⟨a, b⟩
theorem HBr_of {s t : Int → Int} (h : HBr s) (e : ∀ b, 0 ≤ b → b < 4 → mh t b = mh s b) : HBr t := by
  obtain ⟨b, b0, b1, hb⟩ := h
  exact ⟨b, b0, b1, by rw [e b b0 b1]; exact hb⟩
theorem HBr_fg {s : Int → Int} {x : Int} (hF : FG s x) (h : HBr s) : HBr (swS (fgX s x) 40) := HBr_of h (fun b b0 b1 => by
  show swS (fgX s x) 40 (6 + b) = s (6 + b)
  rw [sw_lo (by omega)]
  exact fg_lo hF.2.1 (by omega) (by omega))
theorem HBr_sh {s : Int → Int} (hM : MV s) (h : HBr s) : HBr (swS (shX s) 40) := HBr_of h (fun b b0 b1 => by
  show swS (shX s) 40 (6 + b) = s (6 + b)
  rw [sw_lo (by omega)]
  exact shX_o hM (by omega))
theorem HBr_5 {s : Int → Int} {x : Int} (h : HBr s) : HBr (updI s 5 x) := HBr_of h (fun b b0 b1 => updI_n (by omega))
theorem LN_5 {V V' : Vt} {s : Int → Int} {x : Int} (h : LN V s) (e16 : V' 16 0 = updI (V 16 0) 5 x) (e : ∀ r, 17 ≤ r → r ≤ 22 → V' r 0 = V r 0) : LN V' (updI s 5 x) := by
  have w : ∀ j, j ≠ 5 → updI s 5 x j = s j := fun j hj => updI_n hj
  refine ⟨fun j j0 j1 => ?_, fun b b0 b1 => ?_, fun k k0 k1 => ?_, fun k p k0 k1 p0 p1 => ?_, fun d d0 d1 => ?_, by rw [e 20 (by omega) (by omega)]; exact h.vr, by rw [e 21 (by omega) (by omega)]; exact h.va, by rw [e 22 (by omega) (by omega)]; exact h.vb⟩
  · rw [e16]
    unfold updI
    split
    · rfl
    · exact h.g j j0 j1
  · rw [e 17 (by omega) (by omega), h.h b b0 b1]
    exact (w _ (by omega)).symm
  · rw [w 0 (by omega)] at k1
    rw [e 18 (by omega) (by omega), e 19 (by omega) (by omega)]
    have := h.n k k0 k1
    exact ⟨this.1.trans (w _ (by omega)).symm, this.2.trans (w _ (by omega)).symm⟩
  · rw [w 0 (by omega)] at k1
    rw [e 20 (by omega) (by omega), h.r k p k0 k1 p0 p1]
    exact (w _ (by omega)).symm
  · rw [e 21 (by omega) (by omega), e 22 (by omega) (by omega)]
    have q1 : mf (updI s 5 x) d = mf s d := w _ (by omega)
    have q2 : ∀ c, 0 ≤ c → mb (updI s 5 x) d c = mb s d c := fun c c0 => w _ (by omega)
    rw [q1]
    rcases h.b d d0 d1 with ⟨a, b, c⟩ | z
    · exact Or.inl ⟨a, b, fun c' c0 c1 => by rw [q2 c' c0]; exact c c' c0 c1⟩
    · exact Or.inr z
