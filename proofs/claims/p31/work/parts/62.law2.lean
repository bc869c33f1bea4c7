set_option maxHeartbeats 4000000 in
set_option maxRecDepth 100000 in
theorem kL_common (l : Launch) (G : Gl) (P : Nat → Nat) (V : Vt) (one : Int) (other : Int) (s : Int → Int) (hB : BV V) (hN : LN V s) (hM : MV s) (h1 : 0 ≤ mS s one) (h2 : 0 ≤ mS s other) (a1 : inR one) (a2 : inR other) : Met l yL_common wsL_common ({ frames := 1, cells := 0, slots := 0, locals := 23 }) (va_Pc [.ref (ad G 16 0), .ref (ad G 18 0), .ref (ad G 19 0), .int (iI one), .int (iI other)] (Sg G P V)) (Qk G mkI (dt (cmM s other 16 one) P V)) 0 0 (mem G) := by
  refine z_met (cc := cL_common) (nL := 7) (ret := (some .int)) (own := RL) (by decide +kernel) rfl rfl (Nat.le_of_ble_eq_true rfl) (L := [some (.ref (ad G 16 0)), some (.ref (ad G 18 0)), some (.ref (ad G 19 0)), some (.int (iI one)), some (.int (iI other)), none, none]) rfl ?_
  intro X E Er0
  have hz := hM.z
  have g0 := hN.g0
  refine z_iload_n E dL_common_0 3 rfl rfl ?_
  refine z_istore E dL_common_1 (L' := [some (.ref (ad G 16 0)), some (.ref (ad G 18 0)), some (.ref (ad G 19 0)), some (.int (iI one)), some (.int (iI other)), some (.int (iI one)), none]) (Nat.le_of_ble_eq_true rfl) rfl ?_
  refine z_iload E dL_common_3 rfl ?_
  refine z_istore E dL_common_5 (L' := [some (.ref (ad G 16 0)), some (.ref (ad G 18 0)), some (.ref (ad G 19 0)), some (.int (iI one)), some (.int (iI other)), some (.int (iI one)), some (.int (iI other))]) (Nat.le_of_ble_eq_true rfl) rfl ?_
  have lp_7_1 : ∀ (fuel : Nat) (x : Int) (y : Int), (CMx s one other x y) → (mS s x + mS s y : Int).toNat < fuel → Kz X G P V 0 0 [some (.ref (ad G 16 0)), some (.ref (ad G 18 0)), some (.ref (ad G 19 0)), some (.int (iI one)), some (.int (iI other)), some (.int (iI x)), some (.int (iI y))] 7 [] := by
    intro fuel
    induction fuel with
    | zero => intro x y hc hf_7; exact absurd hf_7 (Nat.not_lt_zero _)
    | succ fuel ih_7 =>
      intro x y hc hf_7
      have hx := hc.1
      have hy := hc.2.1
      have rx := hc.2.2.1
      have ry := hc.2.2.2.1
      have lx := mS_in hx
      have ly := mS_in hy
      refine z_iload E dL_common_7 rfl ?_
      refine z_iload E dL_common_9 rfl ?_
      refine z_icmp_eq E 49 dL_common_11 rfl (by omega) (by omega) (fun c_2 => ?_) (fun c_2 => ?_)
      · skip
        refine z_iload E dL_common_49 rfl ?_
        exact z_iret E Er0 dL_common_51 (⟨CMx_e hM h1 h2 hc (by omega), rfl, rfl⟩)
      · skip
        refine z_iload E dL_common_14 rfl ?_
        refine z_iload E dL_common_16 rfl ?_
        refine z_icmp_le E 35 dL_common_18 rfl (by omega) (by omega) (fun c_3 => ?_) (fun c_3 => ?_)
        · skip
          refine z_aload_n E dL_common_35 2 rfl rfl ?_
          refine z_aload_n E dL_common_36 0 rfl rfl ?_
          refine z_aload_n E dL_common_37 1 rfl rfl ?_
          refine z_iload E dL_common_38 rfl ?_
          refine z_callS E (n := 3) (st := [.ref (ad G 19 0)]) [.ref (ad G 16 0), .ref (ad G 18 0), .int (iI y)] (kL_find l G P V y hB (by omega) (by omega)) gL_common_L_find rfl ⟨rfl, rfl⟩ (by decide +kernel) ⟨Nat.le_of_ble_eq_true rfl, Nat.le_of_ble_eq_true rfl⟩ rfl rfl (Nat.le_of_ble_eq_true rfl) rfl dL_common_40 (z_dtI ?_)
          rw [hN.find]
          have ey : V 19 0 (mS s y) = mo s (mS s y) 1 := (hN.n _ hy ly.1).2
          have qy := CMx_y hM hc (by omega) (by rw [← ey]; exact hB.g 19 0 _ rfl)
          rw [← ey] at qy
          refine z_iald E (rfl : vl G 19 0 = true) 16 rfl (by omega) (by omega) (by omega) dL_common_43 ?_
          have hr_5 := hB.g 19 0 (mS s y) rfl
          refine z_istore E dL_common_44 (L' := [some (.ref (ad G 16 0)), some (.ref (ad G 18 0)), some (.ref (ad G 19 0)), some (.int (iI one)), some (.int (iI other)), some (.int (iI x)), some (.int (iI (V 19 0 (mS s y))))]) (Nat.le_of_ble_eq_true rfl) rfl ?_
          refine z_goto E 7 dL_common_46 rfl ?_
          exact ih_7 x (V 19 0 (mS s y)) (by first | exact qx.1 | exact qy.1) (by first | (have := qx.2; have := qx.1.1; omega) | (have := qy.2; have := qy.1.2.1; omega))
        · skip
          refine z_aload_n E dL_common_21 2 rfl rfl ?_
          refine z_aload_n E dL_common_22 0 rfl rfl ?_
          refine z_aload_n E dL_common_23 1 rfl rfl ?_
          refine z_iload E dL_common_24 rfl ?_
          refine z_callS E (n := 3) (st := [.ref (ad G 19 0)]) [.ref (ad G 16 0), .ref (ad G 18 0), .int (iI x)] (kL_find l G P V x hB (by omega) (by omega)) gL_common_L_find rfl ⟨rfl, rfl⟩ (by decide +kernel) ⟨Nat.le_of_ble_eq_true rfl, Nat.le_of_ble_eq_true rfl⟩ rfl rfl (Nat.le_of_ble_eq_true rfl) rfl dL_common_26 (z_dtI ?_)
          rw [hN.find]
          have ex : V 19 0 (mS s x) = mo s (mS s x) 1 := (hN.n _ hx lx.1).2
          have qx := CMx_x hM hc (by omega) (by rw [← ex]; exact hB.g 19 0 _ rfl)
          rw [← ex] at qx
          refine z_iald E (rfl : vl G 19 0 = true) 16 rfl (by omega) (by omega) (by omega) dL_common_29 ?_
          have hr_7 := hB.g 19 0 (mS s x) rfl
          refine z_istore E dL_common_30 (L' := [some (.ref (ad G 16 0)), some (.ref (ad G 18 0)), some (.ref (ad G 19 0)), some (.int (iI one)), some (.int (iI other)), some (.int (iI (V 19 0 (mS s x)))), some (.int (iI y))]) (Nat.le_of_ble_eq_true rfl) rfl ?_
          refine z_goto E 7 dL_common_32 rfl ?_
          exact ih_7 (V 19 0 (mS s x)) y (by first | exact qx.1 | exact qy.1) (by first | (have := qx.2; have := qx.1.1; omega) | (have := qy.2; have := qy.1.2.1; omega))
  exact lp_7_1 ((mS s one + mS s other : Int).toNat + 1) one other (CMx_0 hM h1 h2 a1 a2) (Nat.lt_succ_self _)

set_option maxHeartbeats 4000000 in
set_option maxRecDepth 100000 in
theorem kL_merge (l : Launch) (G : Gl) (P : Nat → Nat) (V : Vt) (branch : Int) (state : Int) (s : Int → Int) (hB : BV V) (hN : LN V s) (hM : MV s) (b0 : 0 ≤ branch ∧ branch < 4) (hh : 0 ≤ mh s branch) (h2 : 0 ≤ mS s state) (a2 : inR state) (s1 : s 1 ≤ 1000000) (hv23 : vl G 23 0 = true) : Met l yL_merge wsL_merge ({ frames := 2, cells := 0, slots := 0, locals := 49 }) (va_Pc [.ref (ad G 16 0), .ref (ad G 17 0), .ref (ad G 18 0), .ref (ad G 19 0), .ref (ad G 20 0), .ref (ad G 21 0), .ref (ad G 22 0), .int (iI branch), .int (iI state), .ref (ad G 23 0)] (Sg G P V)) (Qk G mkI (fun r P' V' => P' = P ∧ BV V' ∧ r = mgN s branch state ∧ (∀ r w, ¬ (r = 23 ∧ w = 0) → V' r w = V r w) ∧ ∀ c, 0 ≤ c → c < 48 → V' 23 0 c = mgF s branch state c)) 0 0 (mem G) := by
  refine z_met (cc := cL_merge) (nL := 18) (ret := (some .int)) (own := RL) (by decide +kernel) rfl rfl (Nat.le_of_ble_eq_true rfl) (L := [some (.ref (ad G 16 0)), some (.ref (ad G 17 0)), some (.ref (ad G 18 0)), some (.ref (ad G 19 0)), some (.ref (ad G 20 0)), some (.ref (ad G 21 0)), some (.ref (ad G 22 0)), some (.int (iI branch)), some (.int (iI state)), some (.ref (ad G 23 0)), none, none, none, none, none, none, none, none]) rfl ?_
  intro X E Er0
  have hz := hM.z
  have g0 := hN.g0
  have hb : 0 ≤ mS s (mh s branch) := by rcases hM.h branch b0.1 b0.2 with z | z; (exfalso; omega); exact z.2
  have eh := hN.h branch b0.1 b0.2
  have lb := mS_in hb
  have l2 := mS_in h2
  have hcm := cm_in hM hb h2
  have lc := mS_in hcm
  have nc := (hM.i.nn hcm).1
  have ncm := hM.n _ hcm lc.1
  rw [lc.2] at ncm
  refine z_aload_n E dL_merge_0 0 rfl rfl ?_
  refine z_aload_n E dL_merge_1 2 rfl rfl ?_
  refine z_aload_n E dL_merge_2 1 rfl rfl ?_
  refine z_iload E dL_merge_3 rfl ?_
  refine z_iald E (rfl : vl G 17 0 = true) 4 rfl (by omega) (by omega) (by omega) dL_merge_5 ?_
  have hr_1 := hB.g 17 0 branch rfl
  refine z_callS E (n := 3) (st := []) [.ref (ad G 16 0), .ref (ad G 18 0), .int (iI (V 17 0 branch))] (kL_find l G P V (V 17 0 branch) hB (by omega) (by omega)) gL_merge_L_find rfl ⟨rfl, rfl⟩ (by decide +kernel) ⟨Nat.le_of_ble_eq_true rfl, Nat.le_of_ble_eq_true rfl⟩ rfl rfl (Nat.le_of_ble_eq_true rfl) rfl dL_merge_6 (z_dtI ?_)
  rw [hN.find, eh]
  refine z_istore E dL_merge_9 (L' := [some (.ref (ad G 16 0)), some (.ref (ad G 17 0)), some (.ref (ad G 18 0)), some (.ref (ad G 19 0)), some (.ref (ad G 20 0)), some (.ref (ad G 21 0)), some (.ref (ad G 22 0)), some (.int (iI branch)), some (.int (iI state)), some (.ref (ad G 23 0)), some (.int (iI (mS s (mh s branch)))), none, none, none, none, none, none, none]) (Nat.le_of_ble_eq_true rfl) rfl ?_
  refine z_aload_n E dL_merge_11 0 rfl rfl ?_
  refine z_aload_n E dL_merge_12 2 rfl rfl ?_
  refine z_iload E dL_merge_13 rfl ?_
  refine z_callS E (n := 3) (st := []) [.ref (ad G 16 0), .ref (ad G 18 0), .int (iI state)] (kL_find l G P V state hB (by omega) (by omega)) gL_merge_L_find rfl ⟨rfl, rfl⟩ (by decide +kernel) ⟨Nat.le_of_ble_eq_true rfl, Nat.le_of_ble_eq_true rfl⟩ rfl rfl (Nat.le_of_ble_eq_true rfl) rfl dL_merge_15 (z_dtI ?_)
  rw [hN.find]
  refine z_istore E dL_merge_18 (L' := [some (.ref (ad G 16 0)), some (.ref (ad G 17 0)), some (.ref (ad G 18 0)), some (.ref (ad G 19 0)), some (.ref (ad G 20 0)), some (.ref (ad G 21 0)), some (.ref (ad G 22 0)), some (.int (iI branch)), some (.int (iI state)), some (.ref (ad G 23 0)), some (.int (iI (mS s (mh s branch)))), some (.int (iI (mS s state))), none, none, none, none, none, none]) (Nat.le_of_ble_eq_true rfl) rfl ?_
  refine z_aload_n E dL_merge_20 0 rfl rfl ?_
  refine z_aload_n E dL_merge_21 2 rfl rfl ?_
  refine z_aload_n E dL_merge_22 0 rfl rfl ?_
  refine z_aload_n E dL_merge_23 2 rfl rfl ?_
  refine z_aload_n E dL_merge_24 3 rfl rfl ?_
  refine z_aload_n E dL_merge_25 1 rfl rfl ?_
  refine z_iload E dL_merge_26 rfl ?_
  refine z_iald E (rfl : vl G 17 0 = true) 4 rfl (by omega) (by omega) (by omega) dL_merge_28 ?_
  refine z_iload E dL_merge_29 rfl ?_
  refine z_callS E (n := 5) (st := [.ref (ad G 18 0), .ref (ad G 16 0)]) [.ref (ad G 16 0), .ref (ad G 18 0), .ref (ad G 19 0), .int (iI (V 17 0 branch)), .int (iI state)] (kL_common l G P V (V 17 0 branch) state s hB hN hM (by rw [eh]; exact hb) h2 (by omega) (by omega)) gL_merge_L_common rfl ⟨rfl, rfl⟩ (by decide +kernel) ⟨Nat.le_of_ble_eq_true rfl, Nat.le_of_ble_eq_true rfl⟩ rfl rfl (Nat.le_of_ble_eq_true rfl) rfl dL_merge_31 (z_dtI ?_)
  rw [eh]
  refine z_callS E (n := 3) (st := []) [.ref (ad G 16 0), .ref (ad G 18 0), .int (iI (cmM s state 16 (mh s branch)))] (kL_find l G P V (cmM s state 16 (mh s branch)) hB (by omega) (by omega)) gL_merge_L_find rfl ⟨rfl, rfl⟩ (by decide +kernel) ⟨Nat.le_of_ble_eq_true rfl, Nat.le_of_ble_eq_true rfl⟩ rfl rfl (Nat.le_of_ble_eq_true rfl) rfl dL_merge_34 (z_dtI ?_)
  rw [hN.find]
  refine z_istore E dL_merge_37 (L' := [some (.ref (ad G 16 0)), some (.ref (ad G 17 0)), some (.ref (ad G 18 0)), some (.ref (ad G 19 0)), some (.ref (ad G 20 0)), some (.ref (ad G 21 0)), some (.ref (ad G 22 0)), some (.int (iI branch)), some (.int (iI state)), some (.ref (ad G 23 0)), some (.int (iI (mS s (mh s branch)))), some (.int (iI (mS s state))), some (.int (iI (mS s (cmM s state 16 (mh s branch))))), none, none, none, none, none]) (Nat.le_of_ble_eq_true rfl) rfl ?_
  refine z_iconst E dL_merge_39 ?_
  refine z_istore E dL_merge_40 (L' := [some (.ref (ad G 16 0)), some (.ref (ad G 17 0)), some (.ref (ad G 18 0)), some (.ref (ad G 19 0)), some (.ref (ad G 20 0)), some (.ref (ad G 21 0)), some (.ref (ad G 22 0)), some (.int (iI branch)), some (.int (iI state)), some (.ref (ad G 23 0)), some (.int (iI (mS s (mh s branch)))), some (.int (iI (mS s state))), some (.int (iI (mS s (cmM s state 16 (mh s branch))))), some (.int (iI 0)), none, none, none, none]) (Nat.le_of_ble_eq_true rfl) rfl ?_
  refine z_iconst E dL_merge_42 ?_
  refine z_istore E dL_merge_43 (L' := [some (.ref (ad G 16 0)), some (.ref (ad G 17 0)), some (.ref (ad G 18 0)), some (.ref (ad G 19 0)), some (.ref (ad G 20 0)), some (.ref (ad G 21 0)), some (.ref (ad G 22 0)), some (.int (iI branch)), some (.int (iI state)), some (.ref (ad G 23 0)), some (.int (iI (mS s (mh s branch)))), some (.int (iI (mS s state))), some (.int (iI (mS s (cmM s state 16 (mh s branch))))), some (.int (iI 0)), some (.int (iI 0)), none, none, none]) (Nat.le_of_ble_eq_true rfl) rfl ?_
  have lp_45_6 : ∀ (fuel : Nat) (m : Int) (k : Int) (Vl_45 : Vt), BV Vl_45 → (0 ≤ k) → (k ≤ 48) → (m = sm k (fun c => b2i (mgX (mc s (mS s (cmM s state 16 (mh s branch))) c) (mc s (mS s (mh s branch)) c) (mc s (mS s state) c)))) → (Vl_45 = up V 23 0 (mix (V 23 0) (mgF s branch state) k)) → (48 - k : Int).toNat < fuel → Kz X G P Vl_45 0 0 [some (.ref (ad G 16 0)), some (.ref (ad G 17 0)), some (.ref (ad G 18 0)), some (.ref (ad G 19 0)), some (.ref (ad G 20 0)), some (.ref (ad G 21 0)), some (.ref (ad G 22 0)), some (.int (iI branch)), some (.int (iI state)), some (.ref (ad G 23 0)), some (.int (iI (mS s (mh s branch)))), some (.int (iI (mS s state))), some (.int (iI (mS s (cmM s state 16 (mh s branch))))), some (.int (iI m)), some (.int (iI k)), none, none, none] 45 [] := by
    intro fuel
    induction fuel with
    | zero => intro m k Vl_45 hBl_45 hk0 hk1 hs hVl hf_45; exact absurd hf_45 (Nat.not_lt_zero _)
    | succ fuel ih_45 =>
      intro m k Vl_45 hBl_45 hk0 hk1 hs hVl hf_45
      have hNl : LN Vl_45 s := hN.cg (fun r a b => by rw [hVl, up_r (by omega)])
      refine z_iload E dL_merge_45 rfl ?_
      refine z_bipush E dL_merge_47 rfl ?_
      refine z_icmp_ge E 153 dL_merge_49 rfl (by omega) (by omega) (fun c_7 => ?_) (fun c_7 => ?_)
      · skip
        refine z_iload E dL_merge_153 rfl ?_
        exact z_iret E Er0 dL_merge_155 (⟨rfl, hBl_45, by rw [hs, show k = 48 by omega]; rfl, fun r w hz => by rw [hVl]; exact up_o hz, fun c c0 c1 => by rw [hVl, up_s, show k = 48 by omega]; exact mix_in c0 c1⟩)
      · skip
        refine z_aload E dL_merge_52 rfl ?_
        refine z_aload E dL_merge_54 rfl ?_
        refine z_aload E dL_merge_56 rfl ?_
        refine z_iload E dL_merge_58 rfl ?_
        refine z_iload E dL_merge_60 rfl ?_
        refine z_callS E (n := 5) (st := []) [.ref (ad G 20 0), .ref (ad G 21 0), .ref (ad G 22 0), .int (iI (mS s (mh s branch))), .int (iI k)] (kL_read l G P Vl_45 (mS s (mh s branch)) k (by omega) (by omega) hNl.vr hNl.va hNl.vb (hNl.th hM hb lb.1 (by omega) (by omega))) gL_merge_L_read rfl ⟨rfl, rfl⟩ (by decide +kernel) ⟨Nat.le_of_ble_eq_true rfl, Nat.le_of_ble_eq_true rfl⟩ rfl rfl (Nat.le_of_ble_eq_true rfl) rfl dL_merge_62 (z_dtI ?_)
        rw [hNl.cell hM hb lb.1 hk0 (by omega)]
        have bc_62 := hNl.mc_bd hM hb lb.1 hk0 (show k < 48 by omega)
        refine z_istore E dL_merge_65 (L' := [some (.ref (ad G 16 0)), some (.ref (ad G 17 0)), some (.ref (ad G 18 0)), some (.ref (ad G 19 0)), some (.ref (ad G 20 0)), some (.ref (ad G 21 0)), some (.ref (ad G 22 0)), some (.int (iI branch)), some (.int (iI state)), some (.ref (ad G 23 0)), some (.int (iI (mS s (mh s branch)))), some (.int (iI (mS s state))), some (.int (iI (mS s (cmM s state 16 (mh s branch))))), some (.int (iI m)), some (.int (iI k)), some (.int (iI (mc s (mS s (mh s branch)) k))), none, none]) (Nat.le_of_ble_eq_true rfl) rfl ?_
        refine z_aload E dL_merge_67 rfl ?_
        refine z_aload E dL_merge_69 rfl ?_
        refine z_aload E dL_merge_71 rfl ?_
        refine z_iload E dL_merge_73 rfl ?_
        refine z_iload E dL_merge_75 rfl ?_
        refine z_callS E (n := 5) (st := []) [.ref (ad G 20 0), .ref (ad G 21 0), .ref (ad G 22 0), .int (iI (mS s state)), .int (iI k)] (kL_read l G P Vl_45 (mS s state) k (by omega) (by omega) hNl.vr hNl.va hNl.vb (hNl.th hM h2 l2.1 (by omega) (by omega))) gL_merge_L_read rfl ⟨rfl, rfl⟩ (by decide +kernel) ⟨Nat.le_of_ble_eq_true rfl, Nat.le_of_ble_eq_true rfl⟩ rfl rfl (Nat.le_of_ble_eq_true rfl) rfl dL_merge_77 (z_dtI ?_)
        rw [hNl.cell hM h2 l2.1 hk0 (by omega)]
        have bc_77 := hNl.mc_bd hM h2 l2.1 hk0 (show k < 48 by omega)
        refine z_istore E dL_merge_80 (L' := [some (.ref (ad G 16 0)), some (.ref (ad G 17 0)), some (.ref (ad G 18 0)), some (.ref (ad G 19 0)), some (.ref (ad G 20 0)), some (.ref (ad G 21 0)), some (.ref (ad G 22 0)), some (.int (iI branch)), some (.int (iI state)), some (.ref (ad G 23 0)), some (.int (iI (mS s (mh s branch)))), some (.int (iI (mS s state))), some (.int (iI (mS s (cmM s state 16 (mh s branch))))), some (.int (iI m)), some (.int (iI k)), some (.int (iI (mc s (mS s (mh s branch)) k))), some (.int (iI (mc s (mS s state) k))), none]) (Nat.le_of_ble_eq_true rfl) rfl ?_
        refine z_aload E dL_merge_82 rfl ?_
        refine z_aload E dL_merge_84 rfl ?_
        refine z_aload E dL_merge_86 rfl ?_
        refine z_iload E dL_merge_88 rfl ?_
        refine z_iload E dL_merge_90 rfl ?_
        refine z_callS E (n := 5) (st := []) [.ref (ad G 20 0), .ref (ad G 21 0), .ref (ad G 22 0), .int (iI (mS s (cmM s state 16 (mh s branch)))), .int (iI k)] (kL_read l G P Vl_45 (mS s (cmM s state 16 (mh s branch))) k (by omega) (by omega) hNl.vr hNl.va hNl.vb (hNl.th hM hcm lc.1 (by omega) (by omega))) gL_merge_L_read rfl ⟨rfl, rfl⟩ (by decide +kernel) ⟨Nat.le_of_ble_eq_true rfl, Nat.le_of_ble_eq_true rfl⟩ rfl rfl (Nat.le_of_ble_eq_true rfl) rfl dL_merge_92 (z_dtI ?_)
        rw [hNl.cell hM hcm lc.1 hk0 (by omega)]
        have bc_92 := hNl.mc_bd hM hcm lc.1 hk0 (show k < 48 by omega)
        refine z_istore E dL_merge_95 (L' := [some (.ref (ad G 16 0)), some (.ref (ad G 17 0)), some (.ref (ad G 18 0)), some (.ref (ad G 19 0)), some (.ref (ad G 20 0)), some (.ref (ad G 21 0)), some (.ref (ad G 22 0)), some (.int (iI branch)), some (.int (iI state)), some (.ref (ad G 23 0)), some (.int (iI (mS s (mh s branch)))), some (.int (iI (mS s state))), some (.int (iI (mS s (cmM s state 16 (mh s branch))))), some (.int (iI m)), some (.int (iI k)), some (.int (iI (mc s (mS s (mh s branch)) k))), some (.int (iI (mc s (mS s state) k))), some (.int (iI (mc s (mS s (cmM s state 16 (mh s branch))) k)))]) (Nat.le_of_ble_eq_true rfl) rfl ?_
        refine z_aload E dL_merge_97 rfl ?_
        refine z_iload E dL_merge_99 rfl ?_
        refine z_iload E dL_merge_101 rfl ?_
        refine z_iload E dL_merge_103 rfl ?_
        refine z_icmp_ne E 113 dL_merge_105 rfl (by omega) (by omega) (fun c_11 => ?_) (fun c_11 => ?_)
        · skip
          refine z_iload E dL_merge_113 rfl ?_
          refine z_iast E hv23 48 (fun _ => rfl) (by omega) (by omega) (by omega) dL_merge_115 ?_
          obtain ⟨V12, hV12⟩ : ∃ Z : Vt, Z = up Vl_45 23 0 (updI (Vl_45 23 0) k (mc s (mS s (mh s branch)) k)) := ⟨_, rfl⟩
          rw [← hV12]
          have hB12 : BV V12 := hV12 ▸ BV_up hBl_45 (by intro _; omega)
          refine z_iload E dL_merge_116 rfl ?_
          refine z_iload E dL_merge_118 rfl ?_
          refine z_iload E dL_merge_120 rfl ?_
          refine z_icmp_eq E 143 dL_merge_122 rfl (by omega) (by omega) (fun c_13 => ?_) (fun c_13 => ?_)
          · skip
            refine z_iconst E dL_merge_143 ?_
            refine z_iadd E dL_merge_144 ?_
            refine z_istore E dL_merge_145 (L' := [some (.ref (ad G 16 0)), some (.ref (ad G 17 0)), some (.ref (ad G 18 0)), some (.ref (ad G 19 0)), some (.ref (ad G 20 0)), some (.ref (ad G 21 0)), some (.ref (ad G 22 0)), some (.int (iI branch)), some (.int (iI state)), some (.ref (ad G 23 0)), some (.int (iI (mS s (mh s branch)))), some (.int (iI (mS s state))), some (.int (iI (mS s (cmM s state 16 (mh s branch))))), some (.int (iI (m + 0))), some (.int (iI k)), some (.int (iI (mc s (mS s (mh s branch)) k))), some (.int (iI (mc s (mS s state) k))), some (.int (iI (mc s (mS s (cmM s state 16 (mh s branch))) k)))]) (Nat.le_of_ble_eq_true rfl) rfl ?_
            refine z_iinc E k dL_merge_147 (L' := [some (.ref (ad G 16 0)), some (.ref (ad G 17 0)), some (.ref (ad G 18 0)), some (.ref (ad G 19 0)), some (.ref (ad G 20 0)), some (.ref (ad G 21 0)), some (.ref (ad G 22 0)), some (.int (iI branch)), some (.int (iI state)), some (.ref (ad G 23 0)), some (.int (iI (mS s (mh s branch)))), some (.int (iI (mS s state))), some (.int (iI (mS s (cmM s state 16 (mh s branch))))), some (.int (iI (m + 0))), some (.int (iI (k + 1))), some (.int (iI (mc s (mS s (mh s branch)) k))), some (.int (iI (mc s (mS s state) k))), some (.int (iI (mc s (mS s (cmM s state 16 (mh s branch))) k)))]) (Nat.le_of_ble_eq_true rfl) rfl rfl ?_
            refine z_goto E 45 dL_merge_150 rfl ?_
            refine Kz.drop 15 (L' := [some (.ref (ad G 16 0)), some (.ref (ad G 17 0)), some (.ref (ad G 18 0)), some (.ref (ad G 19 0)), some (.ref (ad G 20 0)), some (.ref (ad G 21 0)), some (.ref (ad G 22 0)), some (.int (iI branch)), some (.int (iI state)), some (.ref (ad G 23 0)), some (.int (iI (mS s (mh s branch)))), some (.int (iI (mS s state))), some (.int (iI (mS s (cmM s state 16 (mh s branch))))), some (.int (iI (m + 0))), some (.int (iI (k + 1))), none, some (.int (iI (mc s (mS s state) k))), some (.int (iI (mc s (mS s (cmM s state 16 (mh s branch))) k)))]) rfl ?_
            refine Kz.drop 16 (L' := [some (.ref (ad G 16 0)), some (.ref (ad G 17 0)), some (.ref (ad G 18 0)), some (.ref (ad G 19 0)), some (.ref (ad G 20 0)), some (.ref (ad G 21 0)), some (.ref (ad G 22 0)), some (.int (iI branch)), some (.int (iI state)), some (.ref (ad G 23 0)), some (.int (iI (mS s (mh s branch)))), some (.int (iI (mS s state))), some (.int (iI (mS s (cmM s state 16 (mh s branch))))), some (.int (iI (m + 0))), some (.int (iI (k + 1))), none, none, some (.int (iI (mc s (mS s (cmM s state 16 (mh s branch))) k)))]) rfl ?_
            refine Kz.drop 17 (L' := [some (.ref (ad G 16 0)), some (.ref (ad G 17 0)), some (.ref (ad G 18 0)), some (.ref (ad G 19 0)), some (.ref (ad G 20 0)), some (.ref (ad G 21 0)), some (.ref (ad G 22 0)), some (.int (iI branch)), some (.int (iI state)), some (.ref (ad G 23 0)), some (.int (iI (mS s (mh s branch)))), some (.int (iI (mS s state))), some (.int (iI (mS s (cmM s state 16 (mh s branch))))), some (.int (iI (m + 0))), some (.int (iI (k + 1))), none, none, none]) rfl ?_
            exact ih_45 (m + 0) (k + 1) V12 hB12 (by omega) (by omega) (by first | exact smb_t hs (by omega) (by unfold mgX; omega) | exact smb_f hs (by omega) (by unfold mgX; omega)) (by rw [hV12, hVl, up_s, upup]; congr 1; exact mix_e hk0 (by first | exact (mg_law.1 (by omega)) | exact (mg_law.2 (by omega)))) (by omega)
          · skip
            refine z_iload E dL_merge_125 rfl ?_
            refine z_iload E dL_merge_127 rfl ?_
            refine z_icmp_eq E 143 dL_merge_129 rfl (by omega) (by omega) (fun c_14 => ?_) (fun c_14 => ?_)
            · skip
              refine z_iconst E dL_merge_143 ?_
              refine z_iadd E dL_merge_144 ?_
              refine z_istore E dL_merge_145 (L' := [some (.ref (ad G 16 0)), some (.ref (ad G 17 0)), some (.ref (ad G 18 0)), some (.ref (ad G 19 0)), some (.ref (ad G 20 0)), some (.ref (ad G 21 0)), some (.ref (ad G 22 0)), some (.int (iI branch)), some (.int (iI state)), some (.ref (ad G 23 0)), some (.int (iI (mS s (mh s branch)))), some (.int (iI (mS s state))), some (.int (iI (mS s (cmM s state 16 (mh s branch))))), some (.int (iI (m + 0))), some (.int (iI k)), some (.int (iI (mc s (mS s (mh s branch)) k))), some (.int (iI (mc s (mS s state) k))), some (.int (iI (mc s (mS s (cmM s state 16 (mh s branch))) k)))]) (Nat.le_of_ble_eq_true rfl) rfl ?_
              refine z_iinc E k dL_merge_147 (L' := [some (.ref (ad G 16 0)), some (.ref (ad G 17 0)), some (.ref (ad G 18 0)), some (.ref (ad G 19 0)), some (.ref (ad G 20 0)), some (.ref (ad G 21 0)), some (.ref (ad G 22 0)), some (.int (iI branch)), some (.int (iI state)), some (.ref (ad G 23 0)), some (.int (iI (mS s (mh s branch)))), some (.int (iI (mS s state))), some (.int (iI (mS s (cmM s state 16 (mh s branch))))), some (.int (iI (m + 0))), some (.int (iI (k + 1))), some (.int (iI (mc s (mS s (mh s branch)) k))), some (.int (iI (mc s (mS s state) k))), some (.int (iI (mc s (mS s (cmM s state 16 (mh s branch))) k)))]) (Nat.le_of_ble_eq_true rfl) rfl rfl ?_
              refine z_goto E 45 dL_merge_150 rfl ?_
              refine Kz.drop 15 (L' := [some (.ref (ad G 16 0)), some (.ref (ad G 17 0)), some (.ref (ad G 18 0)), some (.ref (ad G 19 0)), some (.ref (ad G 20 0)), some (.ref (ad G 21 0)), some (.ref (ad G 22 0)), some (.int (iI branch)), some (.int (iI state)), some (.ref (ad G 23 0)), some (.int (iI (mS s (mh s branch)))), some (.int (iI (mS s state))), some (.int (iI (mS s (cmM s state 16 (mh s branch))))), some (.int (iI (m + 0))), some (.int (iI (k + 1))), none, some (.int (iI (mc s (mS s state) k))), some (.int (iI (mc s (mS s (cmM s state 16 (mh s branch))) k)))]) rfl ?_
              refine Kz.drop 16 (L' := [some (.ref (ad G 16 0)), some (.ref (ad G 17 0)), some (.ref (ad G 18 0)), some (.ref (ad G 19 0)), some (.ref (ad G 20 0)), some (.ref (ad G 21 0)), some (.ref (ad G 22 0)), some (.int (iI branch)), some (.int (iI state)), some (.ref (ad G 23 0)), some (.int (iI (mS s (mh s branch)))), some (.int (iI (mS s state))), some (.int (iI (mS s (cmM s state 16 (mh s branch))))), some (.int (iI (m + 0))), some (.int (iI (k + 1))), none, none, some (.int (iI (mc s (mS s (cmM s state 16 (mh s branch))) k)))]) rfl ?_
              refine Kz.drop 17 (L' := [some (.ref (ad G 16 0)), some (.ref (ad G 17 0)), some (.ref (ad G 18 0)), some (.ref (ad G 19 0)), some (.ref (ad G 20 0)), some (.ref (ad G 21 0)), some (.ref (ad G 22 0)), some (.int (iI branch)), some (.int (iI state)), some (.ref (ad G 23 0)), some (.int (iI (mS s (mh s branch)))), some (.int (iI (mS s state))), some (.int (iI (mS s (cmM s state 16 (mh s branch))))), some (.int (iI (m + 0))), some (.int (iI (k + 1))), none, none, none]) rfl ?_
              exact ih_45 (m + 0) (k + 1) V12 hB12 (by omega) (by omega) (by first | exact smb_t hs (by omega) (by unfold mgX; omega) | exact smb_f hs (by omega) (by unfold mgX; omega)) (by rw [hV12, hVl, up_s, upup]; congr 1; exact mix_e hk0 (by first | exact (mg_law.1 (by omega)) | exact (mg_law.2 (by omega)))) (by omega)
            · skip
              refine z_iload E dL_merge_132 rfl ?_
              refine z_iload E dL_merge_134 rfl ?_
              refine z_icmp_eq E 143 dL_merge_136 rfl (by omega) (by omega) (fun c_15 => ?_) (fun c_15 => ?_)
              · skip
                refine z_iconst E dL_merge_143 ?_
                refine z_iadd E dL_merge_144 ?_
                refine z_istore E dL_merge_145 (L' := [some (.ref (ad G 16 0)), some (.ref (ad G 17 0)), some (.ref (ad G 18 0)), some (.ref (ad G 19 0)), some (.ref (ad G 20 0)), some (.ref (ad G 21 0)), some (.ref (ad G 22 0)), some (.int (iI branch)), some (.int (iI state)), some (.ref (ad G 23 0)), some (.int (iI (mS s (mh s branch)))), some (.int (iI (mS s state))), some (.int (iI (mS s (cmM s state 16 (mh s branch))))), some (.int (iI (m + 0))), some (.int (iI k)), some (.int (iI (mc s (mS s (mh s branch)) k))), some (.int (iI (mc s (mS s state) k))), some (.int (iI (mc s (mS s (cmM s state 16 (mh s branch))) k)))]) (Nat.le_of_ble_eq_true rfl) rfl ?_
                refine z_iinc E k dL_merge_147 (L' := [some (.ref (ad G 16 0)), some (.ref (ad G 17 0)), some (.ref (ad G 18 0)), some (.ref (ad G 19 0)), some (.ref (ad G 20 0)), some (.ref (ad G 21 0)), some (.ref (ad G 22 0)), some (.int (iI branch)), some (.int (iI state)), some (.ref (ad G 23 0)), some (.int (iI (mS s (mh s branch)))), some (.int (iI (mS s state))), some (.int (iI (mS s (cmM s state 16 (mh s branch))))), some (.int (iI (m + 0))), some (.int (iI (k + 1))), some (.int (iI (mc s (mS s (mh s branch)) k))), some (.int (iI (mc s (mS s state) k))), some (.int (iI (mc s (mS s (cmM s state 16 (mh s branch))) k)))]) (Nat.le_of_ble_eq_true rfl) rfl rfl ?_
                refine z_goto E 45 dL_merge_150 rfl ?_
                refine Kz.drop 15 (L' := [some (.ref (ad G 16 0)), some (.ref (ad G 17 0)), some (.ref (ad G 18 0)), some (.ref (ad G 19 0)), some (.ref (ad G 20 0)), some (.ref (ad G 21 0)), some (.ref (ad G 22 0)), some (.int (iI branch)), some (.int (iI state)), some (.ref (ad G 23 0)), some (.int (iI (mS s (mh s branch)))), some (.int (iI (mS s state))), some (.int (iI (mS s (cmM s state 16 (mh s branch))))), some (.int (iI (m + 0))), some (.int (iI (k + 1))), none, some (.int (iI (mc s (mS s state) k))), some (.int (iI (mc s (mS s (cmM s state 16 (mh s branch))) k)))]) rfl ?_
                refine Kz.drop 16 (L' := [some (.ref (ad G 16 0)), some (.ref (ad G 17 0)), some (.ref (ad G 18 0)), some (.ref (ad G 19 0)), some (.ref (ad G 20 0)), some (.ref (ad G 21 0)), some (.ref (ad G 22 0)), some (.int (iI branch)), some (.int (iI state)), some (.ref (ad G 23 0)), some (.int (iI (mS s (mh s branch)))), some (.int (iI (mS s state))), some (.int (iI (mS s (cmM s state 16 (mh s branch))))), some (.int (iI (m + 0))), some (.int (iI (k + 1))), none, none, some (.int (iI (mc s (mS s (cmM s state 16 (mh s branch))) k)))]) rfl ?_
                refine Kz.drop 17 (L' := [some (.ref (ad G 16 0)), some (.ref (ad G 17 0)), some (.ref (ad G 18 0)), some (.ref (ad G 19 0)), some (.ref (ad G 20 0)), some (.ref (ad G 21 0)), some (.ref (ad G 22 0)), some (.int (iI branch)), some (.int (iI state)), some (.ref (ad G 23 0)), some (.int (iI (mS s (mh s branch)))), some (.int (iI (mS s state))), some (.int (iI (mS s (cmM s state 16 (mh s branch))))), some (.int (iI (m + 0))), some (.int (iI (k + 1))), none, none, none]) rfl ?_
                exact ih_45 (m + 0) (k + 1) V12 hB12 (by omega) (by omega) (by first | exact smb_t hs (by omega) (by unfold mgX; omega) | exact smb_f hs (by omega) (by unfold mgX; omega)) (by rw [hV12, hVl, up_s, upup]; congr 1; exact mix_e hk0 (by first | exact (mg_law.1 (by omega)) | exact (mg_law.2 (by omega)))) (by omega)
              · skip
                refine z_iconst E dL_merge_139 ?_
                refine z_goto E 144 dL_merge_140 rfl ?_
                refine z_iadd E dL_merge_144 ?_
                refine z_istore E dL_merge_145 (L' := [some (.ref (ad G 16 0)), some (.ref (ad G 17 0)), some (.ref (ad G 18 0)), some (.ref (ad G 19 0)), some (.ref (ad G 20 0)), some (.ref (ad G 21 0)), some (.ref (ad G 22 0)), some (.int (iI branch)), some (.int (iI state)), some (.ref (ad G 23 0)), some (.int (iI (mS s (mh s branch)))), some (.int (iI (mS s state))), some (.int (iI (mS s (cmM s state 16 (mh s branch))))), some (.int (iI (m + 1))), some (.int (iI k)), some (.int (iI (mc s (mS s (mh s branch)) k))), some (.int (iI (mc s (mS s state) k))), some (.int (iI (mc s (mS s (cmM s state 16 (mh s branch))) k)))]) (Nat.le_of_ble_eq_true rfl) rfl ?_
                refine z_iinc E k dL_merge_147 (L' := [some (.ref (ad G 16 0)), some (.ref (ad G 17 0)), some (.ref (ad G 18 0)), some (.ref (ad G 19 0)), some (.ref (ad G 20 0)), some (.ref (ad G 21 0)), some (.ref (ad G 22 0)), some (.int (iI branch)), some (.int (iI state)), some (.ref (ad G 23 0)), some (.int (iI (mS s (mh s branch)))), some (.int (iI (mS s state))), some (.int (iI (mS s (cmM s state 16 (mh s branch))))), some (.int (iI (m + 1))), some (.int (iI (k + 1))), some (.int (iI (mc s (mS s (mh s branch)) k))), some (.int (iI (mc s (mS s state) k))), some (.int (iI (mc s (mS s (cmM s state 16 (mh s branch))) k)))]) (Nat.le_of_ble_eq_true rfl) rfl rfl ?_
                refine z_goto E 45 dL_merge_150 rfl ?_
                refine Kz.drop 15 (L' := [some (.ref (ad G 16 0)), some (.ref (ad G 17 0)), some (.ref (ad G 18 0)), some (.ref (ad G 19 0)), some (.ref (ad G 20 0)), some (.ref (ad G 21 0)), some (.ref (ad G 22 0)), some (.int (iI branch)), some (.int (iI state)), some (.ref (ad G 23 0)), some (.int (iI (mS s (mh s branch)))), some (.int (iI (mS s state))), some (.int (iI (mS s (cmM s state 16 (mh s branch))))), some (.int (iI (m + 1))), some (.int (iI (k + 1))), none, some (.int (iI (mc s (mS s state) k))), some (.int (iI (mc s (mS s (cmM s state 16 (mh s branch))) k)))]) rfl ?_
                refine Kz.drop 16 (L' := [some (.ref (ad G 16 0)), some (.ref (ad G 17 0)), some (.ref (ad G 18 0)), some (.ref (ad G 19 0)), some (.ref (ad G 20 0)), some (.ref (ad G 21 0)), some (.ref (ad G 22 0)), some (.int (iI branch)), some (.int (iI state)), some (.ref (ad G 23 0)), some (.int (iI (mS s (mh s branch)))), some (.int (iI (mS s state))), some (.int (iI (mS s (cmM s state 16 (mh s branch))))), some (.int (iI (m + 1))), some (.int (iI (k + 1))), none, none, some (.int (iI (mc s (mS s (cmM s state 16 (mh s branch))) k)))]) rfl ?_
                refine Kz.drop 17 (L' := [some (.ref (ad G 16 0)), some (.ref (ad G 17 0)), some (.ref (ad G 18 0)), some (.ref (ad G 19 0)), some (.ref (ad G 20 0)), some (.ref (ad G 21 0)), some (.ref (ad G 22 0)), some (.int (iI branch)), some (.int (iI state)), some (.ref (ad G 23 0)), some (.int (iI (mS s (mh s branch)))), some (.int (iI (mS s state))), some (.int (iI (mS s (cmM s state 16 (mh s branch))))), some (.int (iI (m + 1))), some (.int (iI (k + 1))), none, none, none]) rfl ?_
                exact ih_45 (m + 1) (k + 1) V12 hB12 (by omega) (by omega) (by first | exact smb_t hs (by omega) (by unfold mgX; omega) | exact smb_f hs (by omega) (by unfold mgX; omega)) (by rw [hV12, hVl, up_s, upup]; congr 1; exact mix_e hk0 (by first | exact (mg_law.1 (by omega)) | exact (mg_law.2 (by omega)))) (by omega)
        · skip
          refine z_iload E dL_merge_108 rfl ?_
          refine z_goto E 115 dL_merge_110 rfl ?_
          refine z_iast E hv23 48 (fun _ => rfl) (by omega) (by omega) (by omega) dL_merge_115 ?_
          obtain ⟨V16, hV16⟩ : ∃ Z : Vt, Z = up Vl_45 23 0 (updI (Vl_45 23 0) k (mc s (mS s state) k)) := ⟨_, rfl⟩
          rw [← hV16]
          have hB16 : BV V16 := hV16 ▸ BV_up hBl_45 (by intro _; omega)
          refine z_iload E dL_merge_116 rfl ?_
          refine z_iload E dL_merge_118 rfl ?_
          refine z_iload E dL_merge_120 rfl ?_
          refine z_icmp_eq E 143 dL_merge_122 rfl (by omega) (by omega) (fun c_17 => ?_) (fun c_17 => ?_)
          · skip
            refine z_iconst E dL_merge_143 ?_
            refine z_iadd E dL_merge_144 ?_
            refine z_istore E dL_merge_145 (L' := [some (.ref (ad G 16 0)), some (.ref (ad G 17 0)), some (.ref (ad G 18 0)), some (.ref (ad G 19 0)), some (.ref (ad G 20 0)), some (.ref (ad G 21 0)), some (.ref (ad G 22 0)), some (.int (iI branch)), some (.int (iI state)), some (.ref (ad G 23 0)), some (.int (iI (mS s (mh s branch)))), some (.int (iI (mS s state))), some (.int (iI (mS s (cmM s state 16 (mh s branch))))), some (.int (iI (m + 0))), some (.int (iI k)), some (.int (iI (mc s (mS s (mh s branch)) k))), some (.int (iI (mc s (mS s state) k))), some (.int (iI (mc s (mS s (cmM s state 16 (mh s branch))) k)))]) (Nat.le_of_ble_eq_true rfl) rfl ?_
            refine z_iinc E k dL_merge_147 (L' := [some (.ref (ad G 16 0)), some (.ref (ad G 17 0)), some (.ref (ad G 18 0)), some (.ref (ad G 19 0)), some (.ref (ad G 20 0)), some (.ref (ad G 21 0)), some (.ref (ad G 22 0)), some (.int (iI branch)), some (.int (iI state)), some (.ref (ad G 23 0)), some (.int (iI (mS s (mh s branch)))), some (.int (iI (mS s state))), some (.int (iI (mS s (cmM s state 16 (mh s branch))))), some (.int (iI (m + 0))), some (.int (iI (k + 1))), some (.int (iI (mc s (mS s (mh s branch)) k))), some (.int (iI (mc s (mS s state) k))), some (.int (iI (mc s (mS s (cmM s state 16 (mh s branch))) k)))]) (Nat.le_of_ble_eq_true rfl) rfl rfl ?_
            refine z_goto E 45 dL_merge_150 rfl ?_
            refine Kz.drop 15 (L' := [some (.ref (ad G 16 0)), some (.ref (ad G 17 0)), some (.ref (ad G 18 0)), some (.ref (ad G 19 0)), some (.ref (ad G 20 0)), some (.ref (ad G 21 0)), some (.ref (ad G 22 0)), some (.int (iI branch)), some (.int (iI state)), some (.ref (ad G 23 0)), some (.int (iI (mS s (mh s branch)))), some (.int (iI (mS s state))), some (.int (iI (mS s (cmM s state 16 (mh s branch))))), some (.int (iI (m + 0))), some (.int (iI (k + 1))), none, some (.int (iI (mc s (mS s state) k))), some (.int (iI (mc s (mS s (cmM s state 16 (mh s branch))) k)))]) rfl ?_
            refine Kz.drop 16 (L' := [some (.ref (ad G 16 0)), some (.ref (ad G 17 0)), some (.ref (ad G 18 0)), some (.ref (ad G 19 0)), some (.ref (ad G 20 0)), some (.ref (ad G 21 0)), some (.ref (ad G 22 0)), some (.int (iI branch)), some (.int (iI state)), some (.ref (ad G 23 0)), some (.int (iI (mS s (mh s branch)))), some (.int (iI (mS s state))), some (.int (iI (mS s (cmM s state 16 (mh s branch))))), some (.int (iI (m + 0))), some (.int (iI (k + 1))), none, none, some (.int (iI (mc s (mS s (cmM s state 16 (mh s branch))) k)))]) rfl ?_
            refine Kz.drop 17 (L' := [some (.ref (ad G 16 0)), some (.ref (ad G 17 0)), some (.ref (ad G 18 0)), some (.ref (ad G 19 0)), some (.ref (ad G 20 0)), some (.ref (ad G 21 0)), some (.ref (ad G 22 0)), some (.int (iI branch)), some (.int (iI state)), some (.ref (ad G 23 0)), some (.int (iI (mS s (mh s branch)))), some (.int (iI (mS s state))), some (.int (iI (mS s (cmM s state 16 (mh s branch))))), some (.int (iI (m + 0))), some (.int (iI (k + 1))), none, none, none]) rfl ?_
            exact ih_45 (m + 0) (k + 1) V16 hB16 (by omega) (by omega) (by first | exact smb_t hs (by omega) (by unfold mgX; omega) | exact smb_f hs (by omega) (by unfold mgX; omega)) (by rw [hV16, hVl, up_s, upup]; congr 1; exact mix_e hk0 (by first | exact (mg_law.1 (by omega)) | exact (mg_law.2 (by omega)))) (by omega)
          · skip
            refine z_iload E dL_merge_125 rfl ?_
            refine z_iload E dL_merge_127 rfl ?_
            refine z_icmp_eq E 143 dL_merge_129 rfl (by omega) (by omega) (fun c_18 => ?_) (fun c_18 => ?_)
            · skip
              refine z_iconst E dL_merge_143 ?_
              refine z_iadd E dL_merge_144 ?_
              refine z_istore E dL_merge_145 (L' := [some (.ref (ad G 16 0)), some (.ref (ad G 17 0)), some (.ref (ad G 18 0)), some (.ref (ad G 19 0)), some (.ref (ad G 20 0)), some (.ref (ad G 21 0)), some (.ref (ad G 22 0)), some (.int (iI branch)), some (.int (iI state)), some (.ref (ad G 23 0)), some (.int (iI (mS s (mh s branch)))), some (.int (iI (mS s state))), some (.int (iI (mS s (cmM s state 16 (mh s branch))))), some (.int (iI (m + 0))), some (.int (iI k)), some (.int (iI (mc s (mS s (mh s branch)) k))), some (.int (iI (mc s (mS s state) k))), some (.int (iI (mc s (mS s (cmM s state 16 (mh s branch))) k)))]) (Nat.le_of_ble_eq_true rfl) rfl ?_
              refine z_iinc E k dL_merge_147 (L' := [some (.ref (ad G 16 0)), some (.ref (ad G 17 0)), some (.ref (ad G 18 0)), some (.ref (ad G 19 0)), some (.ref (ad G 20 0)), some (.ref (ad G 21 0)), some (.ref (ad G 22 0)), some (.int (iI branch)), some (.int (iI state)), some (.ref (ad G 23 0)), some (.int (iI (mS s (mh s branch)))), some (.int (iI (mS s state))), some (.int (iI (mS s (cmM s state 16 (mh s branch))))), some (.int (iI (m + 0))), some (.int (iI (k + 1))), some (.int (iI (mc s (mS s (mh s branch)) k))), some (.int (iI (mc s (mS s state) k))), some (.int (iI (mc s (mS s (cmM s state 16 (mh s branch))) k)))]) (Nat.le_of_ble_eq_true rfl) rfl rfl ?_
              refine z_goto E 45 dL_merge_150 rfl ?_
              refine Kz.drop 15 (L' := [some (.ref (ad G 16 0)), some (.ref (ad G 17 0)), some (.ref (ad G 18 0)), some (.ref (ad G 19 0)), some (.ref (ad G 20 0)), some (.ref (ad G 21 0)), some (.ref (ad G 22 0)), some (.int (iI branch)), some (.int (iI state)), some (.ref (ad G 23 0)), some (.int (iI (mS s (mh s branch)))), some (.int (iI (mS s state))), some (.int (iI (mS s (cmM s state 16 (mh s branch))))), some (.int (iI (m + 0))), some (.int (iI (k + 1))), none, some (.int (iI (mc s (mS s state) k))), some (.int (iI (mc s (mS s (cmM s state 16 (mh s branch))) k)))]) rfl ?_
              refine Kz.drop 16 (L' := [some (.ref (ad G 16 0)), some (.ref (ad G 17 0)), some (.ref (ad G 18 0)), some (.ref (ad G 19 0)), some (.ref (ad G 20 0)), some (.ref (ad G 21 0)), some (.ref (ad G 22 0)), some (.int (iI branch)), some (.int (iI state)), some (.ref (ad G 23 0)), some (.int (iI (mS s (mh s branch)))), some (.int (iI (mS s state))), some (.int (iI (mS s (cmM s state 16 (mh s branch))))), some (.int (iI (m + 0))), some (.int (iI (k + 1))), none, none, some (.int (iI (mc s (mS s (cmM s state 16 (mh s branch))) k)))]) rfl ?_
              refine Kz.drop 17 (L' := [some (.ref (ad G 16 0)), some (.ref (ad G 17 0)), some (.ref (ad G 18 0)), some (.ref (ad G 19 0)), some (.ref (ad G 20 0)), some (.ref (ad G 21 0)), some (.ref (ad G 22 0)), some (.int (iI branch)), some (.int (iI state)), some (.ref (ad G 23 0)), some (.int (iI (mS s (mh s branch)))), some (.int (iI (mS s state))), some (.int (iI (mS s (cmM s state 16 (mh s branch))))), some (.int (iI (m + 0))), some (.int (iI (k + 1))), none, none, none]) rfl ?_
              exact ih_45 (m + 0) (k + 1) V16 hB16 (by omega) (by omega) (by first | exact smb_t hs (by omega) (by unfold mgX; omega) | exact smb_f hs (by omega) (by unfold mgX; omega)) (by rw [hV16, hVl, up_s, upup]; congr 1; exact mix_e hk0 (by first | exact (mg_law.1 (by omega)) | exact (mg_law.2 (by omega)))) (by omega)
            · skip
              refine z_iload E dL_merge_132 rfl ?_
              refine z_iload E dL_merge_134 rfl ?_
              refine z_icmp_eq E 143 dL_merge_136 rfl (by omega) (by omega) (fun c_19 => ?_) (fun c_19 => ?_)
              · skip
                refine z_iconst E dL_merge_143 ?_
                refine z_iadd E dL_merge_144 ?_
                refine z_istore E dL_merge_145 (L' := [some (.ref (ad G 16 0)), some (.ref (ad G 17 0)), some (.ref (ad G 18 0)), some (.ref (ad G 19 0)), some (.ref (ad G 20 0)), some (.ref (ad G 21 0)), some (.ref (ad G 22 0)), some (.int (iI branch)), some (.int (iI state)), some (.ref (ad G 23 0)), some (.int (iI (mS s (mh s branch)))), some (.int (iI (mS s state))), some (.int (iI (mS s (cmM s state 16 (mh s branch))))), some (.int (iI (m + 0))), some (.int (iI k)), some (.int (iI (mc s (mS s (mh s branch)) k))), some (.int (iI (mc s (mS s state) k))), some (.int (iI (mc s (mS s (cmM s state 16 (mh s branch))) k)))]) (Nat.le_of_ble_eq_true rfl) rfl ?_
                refine z_iinc E k dL_merge_147 (L' := [some (.ref (ad G 16 0)), some (.ref (ad G 17 0)), some (.ref (ad G 18 0)), some (.ref (ad G 19 0)), some (.ref (ad G 20 0)), some (.ref (ad G 21 0)), some (.ref (ad G 22 0)), some (.int (iI branch)), some (.int (iI state)), some (.ref (ad G 23 0)), some (.int (iI (mS s (mh s branch)))), some (.int (iI (mS s state))), some (.int (iI (mS s (cmM s state 16 (mh s branch))))), some (.int (iI (m + 0))), some (.int (iI (k + 1))), some (.int (iI (mc s (mS s (mh s branch)) k))), some (.int (iI (mc s (mS s state) k))), some (.int (iI (mc s (mS s (cmM s state 16 (mh s branch))) k)))]) (Nat.le_of_ble_eq_true rfl) rfl rfl ?_
                refine z_goto E 45 dL_merge_150 rfl ?_
                refine Kz.drop 15 (L' := [some (.ref (ad G 16 0)), some (.ref (ad G 17 0)), some (.ref (ad G 18 0)), some (.ref (ad G 19 0)), some (.ref (ad G 20 0)), some (.ref (ad G 21 0)), some (.ref (ad G 22 0)), some (.int (iI branch)), some (.int (iI state)), some (.ref (ad G 23 0)), some (.int (iI (mS s (mh s branch)))), some (.int (iI (mS s state))), some (.int (iI (mS s (cmM s state 16 (mh s branch))))), some (.int (iI (m + 0))), some (.int (iI (k + 1))), none, some (.int (iI (mc s (mS s state) k))), some (.int (iI (mc s (mS s (cmM s state 16 (mh s branch))) k)))]) rfl ?_
                refine Kz.drop 16 (L' := [some (.ref (ad G 16 0)), some (.ref (ad G 17 0)), some (.ref (ad G 18 0)), some (.ref (ad G 19 0)), some (.ref (ad G 20 0)), some (.ref (ad G 21 0)), some (.ref (ad G 22 0)), some (.int (iI branch)), some (.int (iI state)), some (.ref (ad G 23 0)), some (.int (iI (mS s (mh s branch)))), some (.int (iI (mS s state))), some (.int (iI (mS s (cmM s state 16 (mh s branch))))), some (.int (iI (m + 0))), some (.int (iI (k + 1))), none, none, some (.int (iI (mc s (mS s (cmM s state 16 (mh s branch))) k)))]) rfl ?_
                refine Kz.drop 17 (L' := [some (.ref (ad G 16 0)), some (.ref (ad G 17 0)), some (.ref (ad G 18 0)), some (.ref (ad G 19 0)), some (.ref (ad G 20 0)), some (.ref (ad G 21 0)), some (.ref (ad G 22 0)), some (.int (iI branch)), some (.int (iI state)), some (.ref (ad G 23 0)), some (.int (iI (mS s (mh s branch)))), some (.int (iI (mS s state))), some (.int (iI (mS s (cmM s state 16 (mh s branch))))), some (.int (iI (m + 0))), some (.int (iI (k + 1))), none, none, none]) rfl ?_
                exact ih_45 (m + 0) (k + 1) V16 hB16 (by omega) (by omega) (by first | exact smb_t hs (by omega) (by unfold mgX; omega) | exact smb_f hs (by omega) (by unfold mgX; omega)) (by rw [hV16, hVl, up_s, upup]; congr 1; exact mix_e hk0 (by first | exact (mg_law.1 (by omega)) | exact (mg_law.2 (by omega)))) (by omega)
              · skip
                refine z_iconst E dL_merge_139 ?_
                refine z_goto E 144 dL_merge_140 rfl ?_
                refine z_iadd E dL_merge_144 ?_
                refine z_istore E dL_merge_145 (L' := [some (.ref (ad G 16 0)), some (.ref (ad G 17 0)), some (.ref (ad G 18 0)), some (.ref (ad G 19 0)), some (.ref (ad G 20 0)), some (.ref (ad G 21 0)), some (.ref (ad G 22 0)), some (.int (iI branch)), some (.int (iI state)), some (.ref (ad G 23 0)), some (.int (iI (mS s (mh s branch)))), some (.int (iI (mS s state))), some (.int (iI (mS s (cmM s state 16 (mh s branch))))), some (.int (iI (m + 1))), some (.int (iI k)), some (.int (iI (mc s (mS s (mh s branch)) k))), some (.int (iI (mc s (mS s state) k))), some (.int (iI (mc s (mS s (cmM s state 16 (mh s branch))) k)))]) (Nat.le_of_ble_eq_true rfl) rfl ?_
                refine z_iinc E k dL_merge_147 (L' := [some (.ref (ad G 16 0)), some (.ref (ad G 17 0)), some (.ref (ad G 18 0)), some (.ref (ad G 19 0)), some (.ref (ad G 20 0)), some (.ref (ad G 21 0)), some (.ref (ad G 22 0)), some (.int (iI branch)), some (.int (iI state)), some (.ref (ad G 23 0)), some (.int (iI (mS s (mh s branch)))), some (.int (iI (mS s state))), some (.int (iI (mS s (cmM s state 16 (mh s branch))))), some (.int (iI (m + 1))), some (.int (iI (k + 1))), some (.int (iI (mc s (mS s (mh s branch)) k))), some (.int (iI (mc s (mS s state) k))), some (.int (iI (mc s (mS s (cmM s state 16 (mh s branch))) k)))]) (Nat.le_of_ble_eq_true rfl) rfl rfl ?_
                refine z_goto E 45 dL_merge_150 rfl ?_
                refine Kz.drop 15 (L' := [some (.ref (ad G 16 0)), some (.ref (ad G 17 0)), some (.ref (ad G 18 0)), some (.ref (ad G 19 0)), some (.ref (ad G 20 0)), some (.ref (ad G 21 0)), some (.ref (ad G 22 0)), some (.int (iI branch)), some (.int (iI state)), some (.ref (ad G 23 0)), some (.int (iI (mS s (mh s branch)))), some (.int (iI (mS s state))), some (.int (iI (mS s (cmM s state 16 (mh s branch))))), some (.int (iI (m + 1))), some (.int (iI (k + 1))), none, some (.int (iI (mc s (mS s state) k))), some (.int (iI (mc s (mS s (cmM s state 16 (mh s branch))) k)))]) rfl ?_
                refine Kz.drop 16 (L' := [some (.ref (ad G 16 0)), some (.ref (ad G 17 0)), some (.ref (ad G 18 0)), some (.ref (ad G 19 0)), some (.ref (ad G 20 0)), some (.ref (ad G 21 0)), some (.ref (ad G 22 0)), some (.int (iI branch)), some (.int (iI state)), some (.ref (ad G 23 0)), some (.int (iI (mS s (mh s branch)))), some (.int (iI (mS s state))), some (.int (iI (mS s (cmM s state 16 (mh s branch))))), some (.int (iI (m + 1))), some (.int (iI (k + 1))), none, none, some (.int (iI (mc s (mS s (cmM s state 16 (mh s branch))) k)))]) rfl ?_
                refine Kz.drop 17 (L' := [some (.ref (ad G 16 0)), some (.ref (ad G 17 0)), some (.ref (ad G 18 0)), some (.ref (ad G 19 0)), some (.ref (ad G 20 0)), some (.ref (ad G 21 0)), some (.ref (ad G 22 0)), some (.int (iI branch)), some (.int (iI state)), some (.ref (ad G 23 0)), some (.int (iI (mS s (mh s branch)))), some (.int (iI (mS s state))), some (.int (iI (mS s (cmM s state 16 (mh s branch))))), some (.int (iI (m + 1))), some (.int (iI (k + 1))), none, none, none]) rfl ?_
                exact ih_45 (m + 1) (k + 1) V16 hB16 (by omega) (by omega) (by first | exact smb_t hs (by omega) (by unfold mgX; omega) | exact smb_f hs (by omega) (by unfold mgX; omega)) (by rw [hV16, hVl, up_s, upup]; congr 1; exact mix_e hk0 (by first | exact (mg_law.1 (by omega)) | exact (mg_law.2 (by omega)))) (by omega)
  exact lp_45_6 ((48 - 0 : Int).toNat + 1) 0 0 V hB (by omega) (by omega) (sm_0 (by omega)).symm (by rw [mix_0]; exact up_self.symm) (Nat.lt_succ_self _)

set_option maxHeartbeats 4000000 in
set_option maxRecDepth 100000 in
theorem kL_forget (l : Launch) (G : Gl) (P : Nat → Nat) (V : Vt) (k : Int) (hB : BV V) (hk : 0 < k ∧ k < V 16 0 0) (hg : 0 ≤ V 16 0 0 ∧ V 16 0 0 ≤ 16) (hvr : LVr (V 20 0)) (hvb : LVb (V 22 0)) : Met l yL_forget wsL_forget ({ frames := 3, cells := 0, slots := 0, locals := 73 }) (va_Pc [.ref (ad G 16 0), .ref (ad G 18 0), .ref (ad G 19 0), .ref (ad G 20 0), .ref (ad G 22 0), .int (iI k)] (Sg G P V)) (Qk G mkI (fun r P' V' => P' = P ∧ BV V' ∧ ∃ Vm : Vt, (∀ r w, ¬ (w = 0 ∧ (r = 16 ∨ r = 18 ∨ r = 19 ∨ r = 20)) → Vm r w = V r w) ∧ Vm 16 0 = updI (V 16 0) 0 (V 16 0 0 - 1) ∧ Vm 18 0 = shI (V 18 0) k (V 16 0 0 - 1) ∧ Vm 19 0 = rpI (shI (V 19 0) k (V 16 0 0 - 1)) (V 18 0 k) (V 19 0 k) (V 16 0 0 - 1) ∧ Vm 20 0 = shI (V 20 0) k (V 16 0 0 - 1) ∧ r = sm 40 (fun j => b2i (0 ≤ Vm 22 0 j ∧ lU (Vm 16 0 0) (Vm 20 0) 0 j = 0)) ∧ V' = up Vm 22 0 (swB (Vm 16 0 0) (Vm 20 0) (Vm 22 0) 40))) 0 0 (mem G) := by
  refine z_met (cc := cL_forget) (nL := 9) (ret := (some .int)) (own := RL) (by decide +kernel) rfl rfl (Nat.le_of_ble_eq_true rfl) (L := [some (.ref (ad G 16 0)), some (.ref (ad G 18 0)), some (.ref (ad G 19 0)), some (.ref (ad G 20 0)), some (.ref (ad G 22 0)), some (.int (iI k)), none, none, none]) rfl ?_
  intro X E Er0
  refine z_aload_n E dL_forget_0 1 rfl rfl ?_
  refine z_iload E dL_forget_1 rfl ?_
  refine z_iald E (rfl : vl G 18 0 = true) 16 rfl (by omega) (by omega) (by omega) dL_forget_3 ?_
  have hr_1 := hB.g 18 0 k rfl
  refine z_istore E dL_forget_4 (L' := [some (.ref (ad G 16 0)), some (.ref (ad G 18 0)), some (.ref (ad G 19 0)), some (.ref (ad G 20 0)), some (.ref (ad G 22 0)), some (.int (iI k)), some (.int (iI (V 18 0 k))), none, none]) (Nat.le_of_ble_eq_true rfl) rfl ?_
  refine z_aload_n E dL_forget_6 2 rfl rfl ?_
  refine z_iload E dL_forget_7 rfl ?_
  refine z_iald E (rfl : vl G 19 0 = true) 16 rfl (by omega) (by omega) (by omega) dL_forget_9 ?_
  have hr_2 := hB.g 19 0 k rfl
  refine z_istore E dL_forget_10 (L' := [some (.ref (ad G 16 0)), some (.ref (ad G 18 0)), some (.ref (ad G 19 0)), some (.ref (ad G 20 0)), some (.ref (ad G 22 0)), some (.int (iI k)), some (.int (iI (V 18 0 k))), some (.int (iI (V 19 0 k))), none]) (Nat.le_of_ble_eq_true rfl) rfl ?_
  refine z_aload_n E dL_forget_12 0 rfl rfl ?_
  refine z_iconst E dL_forget_13 ?_
  refine z_dup2 E dL_forget_14 rfl rfl ?_
  refine z_iald E (rfl : vl G 16 0 = true) 6 rfl (by omega) (by omega) (by omega) dL_forget_15 ?_
  refine z_iconst E dL_forget_16 ?_
  refine z_isub E dL_forget_17 ?_
  refine z_iast E (rfl : vl G 16 0 = true) 6 (fun _ => rfl) (by omega) (by omega) (by omega) dL_forget_18 ?_
  obtain ⟨V3, hV3⟩ : ∃ Z : Vt, Z = up V 16 0 (updI (V 16 0) 0 ((V 16 0 0) - 1)) := ⟨_, rfl⟩
  rw [← hV3]
  have hB3 : BV V3 := hV3 ▸ BV_up hB (fun hz => absurd (by simp [ctr]) hz)
  refine z_iload E dL_forget_19 rfl ?_
  refine z_istore E dL_forget_21 (L' := [some (.ref (ad G 16 0)), some (.ref (ad G 18 0)), some (.ref (ad G 19 0)), some (.ref (ad G 20 0)), some (.ref (ad G 22 0)), some (.int (iI k)), some (.int (iI (V 18 0 k))), some (.int (iI (V 19 0 k))), some (.int (iI k))]) (Nat.le_of_ble_eq_true rfl) rfl ?_
  have lp_23_4 : ∀ (fuel : Nat) (i : Int) (Vl_23 : Vt), BV Vl_23 → (k ≤ i) → (i ≤ V 16 0 0 - 1) → (∀ r w, ¬ (w = 0 ∧ (r = 16 ∨ r = 18 ∨ r = 19 ∨ r = 20)) → Vl_23 r w = V r w) → (Vl_23 16 0 = updI (V 16 0) 0 (V 16 0 0 - 1)) → (Vl_23 18 0 = shI (V 18 0) k i) → (Vl_23 19 0 = shI (V 19 0) k i) → (Vl_23 20 0 = shI (V 20 0) k i) → (V 16 0 0 - i : Int).toNat < fuel → Kz X G P Vl_23 0 0 [some (.ref (ad G 16 0)), some (.ref (ad G 18 0)), some (.ref (ad G 19 0)), some (.ref (ad G 20 0)), some (.ref (ad G 22 0)), some (.int (iI k)), some (.int (iI (V 18 0 k))), some (.int (iI (V 19 0 k))), some (.int (iI i))] 23 [] := by
    intro fuel
    induction fuel with
    | zero => intro i Vl_23 hBl_23 hi0 hi1 hf h16 h18 h19 h20 hf_23; exact absurd hf_23 (Nat.not_lt_zero _)
    | succ fuel ih_23 =>
      intro i Vl_23 hBl_23 hi0 hi1 hf h16 h18 h19 h20 hf_23
      have g16 : Vl_23 16 0 0 = V 16 0 0 - 1 := by rw [h16, updI_s]
      refine z_iload E dL_forget_23 rfl ?_
      refine z_aload_n E dL_forget_25 0 rfl rfl ?_
      refine z_iconst E dL_forget_26 ?_
      refine z_iald E (rfl : vl G 16 0 = true) 6 rfl (by omega) (by omega) (by omega) dL_forget_27 ?_
      refine z_icmp_ge E 67 dL_forget_28 rfl (by omega) (by omega) (fun c_5 => ?_) (fun c_5 => ?_)
      · skip
        refine z_iconst E dL_forget_67 ?_
        refine z_istore E dL_forget_68 (L' := [some (.ref (ad G 16 0)), some (.ref (ad G 18 0)), some (.ref (ad G 19 0)), some (.ref (ad G 20 0)), some (.ref (ad G 22 0)), some (.int (iI k)), some (.int (iI (V 18 0 k))), some (.int (iI (V 19 0 k))), some (.int (iI 0))]) (Nat.le_of_ble_eq_true rfl) rfl ?_
        have lp_70_6 : ∀ (fuel : Nat) (j : Int) (Vl_70 : Vt), BV Vl_70 → (0 ≤ j) → (j ≤ V 16 0 0 - 1) → (∀ r w, ¬ (w = 0 ∧ (r = 16 ∨ r = 18 ∨ r = 19 ∨ r = 20)) → Vl_70 r w = V r w) → (Vl_70 16 0 = updI (V 16 0) 0 (V 16 0 0 - 1)) → (Vl_70 18 0 = shI (V 18 0) k (V 16 0 0 - 1)) → (Vl_70 19 0 = rpI (shI (V 19 0) k (V 16 0 0 - 1)) (V 18 0 k) (V 19 0 k) j) → (Vl_70 20 0 = shI (V 20 0) k (V 16 0 0 - 1)) → (V 16 0 0 - j : Int).toNat < fuel → Kz X G P Vl_70 0 0 [some (.ref (ad G 16 0)), some (.ref (ad G 18 0)), some (.ref (ad G 19 0)), some (.ref (ad G 20 0)), some (.ref (ad G 22 0)), some (.int (iI k)), some (.int (iI (V 18 0 k))), some (.int (iI (V 19 0 k))), some (.int (iI j))] 70 [] := by
          intro fuel
          induction fuel with
          | zero => intro j Vl_70 hBl_70 kj0 kj1 kf k16 k18 k19 k20 hf_70; exact absurd hf_70 (Nat.not_lt_zero _)
          | succ fuel ih_70 =>
            intro j Vl_70 hBl_70 kj0 kj1 kf k16 k18 k19 k20 hf_70
            have g16j : Vl_70 16 0 0 = V 16 0 0 - 1 := by rw [k16, updI_s]
            have e19 : Vl_70 19 0 j = shI (V 19 0) k (V 16 0 0 - 1) j := by rw [k19, rpI_k]
            refine z_iload E dL_forget_70 rfl ?_
            refine z_aload_n E dL_forget_72 0 rfl rfl ?_
            refine z_iconst E dL_forget_73 ?_
            refine z_iald E (rfl : vl G 16 0 = true) 6 rfl (by omega) (by omega) (by omega) dL_forget_74 ?_
            refine z_icmp_ge E 106 dL_forget_75 rfl (by omega) (by omega) (fun c_7 => ?_) (fun c_7 => ?_)
            · skip
              refine z_aload_n E dL_forget_106 0 rfl rfl ?_
              refine z_aload_n E dL_forget_107 3 rfl rfl ?_
              refine z_aload E dL_forget_108 rfl ?_
              refine z_callS E (n := 3) (st := []) [.ref (ad G 16 0), .ref (ad G 20 0), .ref (ad G 22 0)] (kL_sweep l G P Vl_70  hBl_70 (by omega) (k20 ▸ shI_vr hvr) (by rw [kf 22 0 (by omega)]; exact hvb)) gL_forget_L_sweep rfl ⟨rfl, rfl⟩ (by decide +kernel) ⟨Nat.le_of_ble_eq_true rfl, Nat.le_of_ble_eq_true rfl⟩ rfl rfl (Nat.le_of_ble_eq_true rfl) rfl dL_forget_110 (z_exI (fun r_8 P_8 V_8 h_8 => ?_))
              obtain ⟨hP_8, hB_8, hr_8, h_8⟩ := h_8
              rw [hP_8]
              have hsw := h_8
              have hsr := hr_8
              exact z_iret E Er0 dL_forget_113 (⟨rfl, hB_8, Vl_70, kf, k16, k18, by rw [k19, show j = V 16 0 0 - 1 by omega], k20, hsr, hsw⟩)
            · skip
              refine z_aload_n E dL_forget_78 2 rfl rfl ?_
              refine z_iload E dL_forget_79 rfl ?_
              refine z_aload_n E dL_forget_81 2 rfl rfl ?_
              refine z_iload E dL_forget_82 rfl ?_
              refine z_iald E (rfl : vl G 19 0 = true) 16 rfl (by omega) (by omega) (by omega) dL_forget_84 ?_
              have hr_9 := hBl_70.g 19 0 j rfl
              refine z_iload E dL_forget_85 rfl ?_
              refine z_icmp_ne E 95 dL_forget_87 rfl (by omega) (by omega) (fun c_10 => ?_) (fun c_10 => ?_)
              · skip
                refine z_aload_n E dL_forget_95 2 rfl rfl ?_
                refine z_iload E dL_forget_96 rfl ?_
                refine z_iald E (rfl : vl G 19 0 = true) 16 rfl (by omega) (by omega) (by omega) dL_forget_98 ?_
                refine z_iast E (rfl : vl G 19 0 = true) 16 (fun _ => rfl) (by omega) (by omega) (by omega) dL_forget_99 ?_
                obtain ⟨V11, hV11⟩ : ∃ Z : Vt, Z = up Vl_70 19 0 (updI (Vl_70 19 0) j (Vl_70 19 0 j)) := ⟨_, rfl⟩
                rw [← hV11]
                have hB11 : BV V11 := hV11 ▸ BV_up hBl_70 (by intro _; omega)
                refine z_iinc E j dL_forget_100 (L' := [some (.ref (ad G 16 0)), some (.ref (ad G 18 0)), some (.ref (ad G 19 0)), some (.ref (ad G 20 0)), some (.ref (ad G 22 0)), some (.int (iI k)), some (.int (iI (V 18 0 k))), some (.int (iI (V 19 0 k))), some (.int (iI (j + 1)))]) (Nat.le_of_ble_eq_true rfl) rfl rfl ?_
                refine z_goto E 70 dL_forget_103 rfl ?_
                exact ih_70 (j + 1) V11 hB11 (by omega) (by omega) (fun r w hz => by rw [hV11, up_o (fun q => hz ⟨q.2, by omega⟩)]; exact kf r w hz) (by rw [hV11, up_r (by decide)]; exact k16) (by rw [hV11, up_r (by decide)]; exact k18) (by first | (rw [hV11, up_s, k19]; exact rpI_t kj0 (by rw [← e19]; assumption)) | (rw [hV11, up_s, k19]; exact rpI_f (fun z => absurd (e19.trans z) (by assumption)))) (by rw [hV11, up_r (by decide)]; exact k20) (by omega)
              · skip
                refine z_iload E dL_forget_90 rfl ?_
                refine z_goto E 99 dL_forget_92 rfl ?_
                refine z_iast E (rfl : vl G 19 0 = true) 16 (fun _ => rfl) (by omega) (by omega) (by omega) dL_forget_99 ?_
                obtain ⟨V12, hV12⟩ : ∃ Z : Vt, Z = up Vl_70 19 0 (updI (Vl_70 19 0) j (V 19 0 k)) := ⟨_, rfl⟩
                rw [← hV12]
                have hB12 : BV V12 := hV12 ▸ BV_up hBl_70 (by intro _; omega)
                refine z_iinc E j dL_forget_100 (L' := [some (.ref (ad G 16 0)), some (.ref (ad G 18 0)), some (.ref (ad G 19 0)), some (.ref (ad G 20 0)), some (.ref (ad G 22 0)), some (.int (iI k)), some (.int (iI (V 18 0 k))), some (.int (iI (V 19 0 k))), some (.int (iI (j + 1)))]) (Nat.le_of_ble_eq_true rfl) rfl rfl ?_
                refine z_goto E 70 dL_forget_103 rfl ?_
                exact ih_70 (j + 1) V12 hB12 (by omega) (by omega) (fun r w hz => by rw [hV12, up_o (fun q => hz ⟨q.2, by omega⟩)]; exact kf r w hz) (by rw [hV12, up_r (by decide)]; exact k16) (by rw [hV12, up_r (by decide)]; exact k18) (by first | (rw [hV12, up_s, k19]; exact rpI_t kj0 (by rw [← e19]; assumption)) | (rw [hV12, up_s, k19]; exact rpI_f (fun z => absurd (e19.trans z) (by assumption)))) (by rw [hV12, up_r (by decide)]; exact k20) (by omega)
        exact lp_70_6 ((V 16 0 0 - 0 : Int).toNat + 1) 0 Vl_23 hBl_23 (by omega) (by omega) hf h16 (by rw [h18, show i = V 16 0 0 - 1 by omega]) (by rw [h19, show i = V 16 0 0 - 1 by omega, rpI_0]) (by rw [h20, show i = V 16 0 0 - 1 by omega]) (Nat.lt_succ_self _)
      · skip
        refine z_aload_n E dL_forget_31 1 rfl rfl ?_
        refine z_iload E dL_forget_32 rfl ?_
        refine z_aload_n E dL_forget_34 1 rfl rfl ?_
        refine z_iload E dL_forget_35 rfl ?_
        refine z_iconst E dL_forget_37 ?_
        refine z_iadd E dL_forget_38 ?_
        refine z_iald E (rfl : vl G 18 0 = true) 16 rfl (by omega) (by omega) (by omega) dL_forget_39 ?_
        have hr_13 := hBl_23.g 18 0 (i + 1) rfl
        refine z_iast E (rfl : vl G 18 0 = true) 16 (fun _ => rfl) (by omega) (by omega) (by omega) dL_forget_40 ?_
        obtain ⟨V14, hV14⟩ : ∃ Z : Vt, Z = up Vl_23 18 0 (updI (Vl_23 18 0) i (Vl_23 18 0 (i + 1))) := ⟨_, rfl⟩
        rw [← hV14]
        have hB14 : BV V14 := hV14 ▸ BV_up hBl_23 (by intro _; omega)
        refine z_aload_n E dL_forget_41 2 rfl rfl ?_
        refine z_iload E dL_forget_42 rfl ?_
        refine z_aload_n E dL_forget_44 2 rfl rfl ?_
        refine z_iload E dL_forget_45 rfl ?_
        refine z_iconst E dL_forget_47 ?_
        refine z_iadd E dL_forget_48 ?_
        refine z_iald E (rfl : vl G 19 0 = true) 16 rfl (by omega) (by omega) (by omega) dL_forget_49 ?_
        have hr_15 := hB14.g 19 0 (i + 1) rfl
        refine z_iast E (rfl : vl G 19 0 = true) 16 (fun _ => rfl) (by omega) (by omega) (by omega) dL_forget_50 ?_
        obtain ⟨V16, hV16⟩ : ∃ Z : Vt, Z = up V14 19 0 (updI (V14 19 0) i (V14 19 0 (i + 1))) := ⟨_, rfl⟩
        rw [← hV16]
        have hB16 : BV V16 := hV16 ▸ BV_up hB14 (by intro _; omega)
        refine z_aload_n E dL_forget_51 3 rfl rfl ?_
        refine z_iload E dL_forget_52 rfl ?_
        refine z_aload_n E dL_forget_54 3 rfl rfl ?_
        refine z_iload E dL_forget_55 rfl ?_
        refine z_iconst E dL_forget_57 ?_
        refine z_iadd E dL_forget_58 ?_
        refine z_lald E (rfl : vl G 20 0 = true) 16 rfl (by omega) (by omega) (by omega) dL_forget_59 ?_
        refine z_last E (rfl : vl G 20 0 = true) 16 (fun _ => rfl) (by omega) (by omega) (by omega) dL_forget_60 ?_
        obtain ⟨V17, hV17⟩ : ∃ Z : Vt, Z = up V16 20 0 (updI (V16 20 0) i (V16 20 0 (i + 1))) := ⟨_, rfl⟩
        rw [← hV17]
        have hB17 : BV V17 := hV17 ▸ BV_up hB16 (fun hz => absurd (by simp [ctr]) hz)
        refine z_iinc E i dL_forget_61 (L' := [some (.ref (ad G 16 0)), some (.ref (ad G 18 0)), some (.ref (ad G 19 0)), some (.ref (ad G 20 0)), some (.ref (ad G 22 0)), some (.int (iI k)), some (.int (iI (V 18 0 k))), some (.int (iI (V 19 0 k))), some (.int (iI (i + 1)))]) (Nat.le_of_ble_eq_true rfl) rfl rfl ?_
        refine z_goto E 23 dL_forget_64 rfl ?_
        exact ih_23 (i + 1) V17 hB17 (by omega) (by omega) (fun r w hz => by rw [hV17, hV16, hV14, up_o (fun q => hz ⟨q.2, by omega⟩), up_o (fun q => hz ⟨q.2, by omega⟩), up_o (fun q => hz ⟨q.2, by omega⟩)]; exact hf r w hz) (by rw [hV17, hV16, hV14, up_r (by decide), up_r (by decide), up_r (by decide)]; exact h16) (by rw [hV17, hV16, hV14, up_r (by decide), up_r (by decide), up_s, h18, shI_s hi0]) (by rw [hV17, hV16, hV14, up_r (by decide), up_s, up_r (by decide), h19, shI_s hi0]) (by rw [hV17, hV16, hV14, up_s, up_r (by decide), up_r (by decide), h20, shI_s hi0]) (by omega)
  exact lp_23_4 ((V 16 0 0 - k : Int).toNat + 1) k V3 hB3 (by omega) (by omega) (fun r w hz => by rw [hV3]; exact up_o (fun q => hz ⟨q.2, by omega⟩)) (by rw [hV3, up_s]) (by rw [hV3, up_r (by decide), shI_0]) (by rw [hV3, up_r (by decide), shI_0]) (by rw [hV3, up_r (by decide), shI_0]) (Nat.lt_succ_self _)

set_option maxHeartbeats 4000000 in
set_option maxRecDepth 100000 in
theorem kL_share (l : Launch) (G : Gl) (P : Nat → Nat) (V : Vt) (hB : BV V) (hg : 0 ≤ V 16 0 0 ∧ V 16 0 0 ≤ 16) (hvr : LVr (V 20 0)) (hva : LVa (V 21 0)) (hvb : LVb (V 22 0)) (hth : ∀ k p, 0 ≤ k → k < V 16 0 0 → 0 ≤ p → p < 6 → 0 ≤ V 22 0 (rD (V 20 0 k) p)) : Met l yL_share wsL_share ({ frames := 3, cells := 0, slots := 0, locals := 73 }) (va_Pc [.ref (ad G 16 0), .ref (ad G 20 0), .ref (ad G 21 0), .ref (ad G 22 0)] (Sg G P V)) (Qk G mkI (fun r P' V' => P' = P ∧ BV V' ∧ ∃ Vm : Vt, (∀ r w, ¬ (r = 20 ∧ w = 0) → Vm r w = V r w) ∧ LVr (Vm 20 0) ∧ (∀ k p, 0 ≤ k → k < V 16 0 0 → 0 ≤ p → p < 6 → rD (Vm 20 0 k) p = lkF (V 21 0) (V 22 0) (V 21 0 (rD (V 20 0 k) p)) (V 22 0 (rD (V 20 0 k) p)) (-1)) ∧ r = sm 40 (fun j => b2i (0 ≤ Vm 22 0 j ∧ lU (Vm 16 0 0) (Vm 20 0) 0 j = 0)) ∧ V' = up Vm 22 0 (swB (Vm 16 0 0) (Vm 20 0) (Vm 22 0) 40))) 0 0 (mem G) := by
  refine z_met (cc := cL_share) (nL := 9) (ret := (some .int)) (own := RL) (by decide +kernel) rfl rfl (Nat.le_of_ble_eq_true rfl) (L := [some (.ref (ad G 16 0)), some (.ref (ad G 20 0)), some (.ref (ad G 21 0)), some (.ref (ad G 22 0)), none, none, none, none, none]) rfl ?_
  intro X E Er0
  refine z_iconst E dL_share_0 ?_
  refine z_istore E dL_share_1 (L' := [some (.ref (ad G 16 0)), some (.ref (ad G 20 0)), some (.ref (ad G 21 0)), some (.ref (ad G 22 0)), some (.int (iI 0)), none, none, none, none]) (Nat.le_of_ble_eq_true rfl) rfl ?_
  have lp_3_1 : ∀ (fuel : Nat) (k : Int) (Vl_3 : Vt), BV Vl_3 → (0 ≤ k) → (k ≤ V 16 0 0) → (∀ r w, ¬ (r = 20 ∧ w = 0) → Vl_3 r w = V r w) → (LVr (Vl_3 20 0)) → (∀ j p, 0 ≤ j → j < k → 0 ≤ p → p < 6 → rD (Vl_3 20 0 j) p = lkF (V 21 0) (V 22 0) (V 21 0 (rD (V 20 0 j) p)) (V 22 0 (rD (V 20 0 j) p)) (-1)) → (∀ j, k ≤ j → Vl_3 20 0 j = V 20 0 j) → (V 16 0 0 - k : Int).toNat < fuel → Kz X G P Vl_3 0 0 [some (.ref (ad G 16 0)), some (.ref (ad G 20 0)), some (.ref (ad G 21 0)), some (.ref (ad G 22 0)), some (.int (iI k)), none, none, none, none] 3 [] := by
    intro fuel
    induction fuel with
    | zero => intro k Vl_3 hBl_3 hk0 hk1 hf hvl hd hu hf_3; exact absurd hf_3 (Nat.not_lt_zero _)
    | succ fuel ih_3 =>
      intro k Vl_3 hBl_3 hk0 hk1 hf hvl hd hu hf_3
      have g16 : Vl_3 16 0 = V 16 0 := hf 16 0 (by omega)
      have g16k : Vl_3 16 0 0 = V 16 0 0 := by rw [g16]
      have g21 : Vl_3 21 0 = V 21 0 := hf 21 0 (by omega)
      have g22 : Vl_3 22 0 = V 22 0 := hf 22 0 (by omega)
      have hvaL : LVa (Vl_3 21 0) := by rw [g21]; exact hva
      have hvbL : LVb (Vl_3 22 0) := by rw [g22]; exact hvb
      refine z_iload E dL_share_3 rfl ?_
      refine z_aload_n E dL_share_5 0 rfl rfl ?_
      refine z_iconst E dL_share_6 ?_
      refine z_iald E (rfl : vl G 16 0 = true) 6 rfl (by omega) (by omega) (by omega) dL_share_7 ?_
      refine z_icmp_ge E 78 dL_share_8 rfl (by omega) (by omega) (fun c_2 => ?_) (fun c_2 => ?_)
      · skip
        refine z_aload_n E dL_share_78 0 rfl rfl ?_
        refine z_aload_n E dL_share_79 1 rfl rfl ?_
        refine z_aload_n E dL_share_80 3 rfl rfl ?_
        refine z_callS E (n := 3) (st := []) [.ref (ad G 16 0), .ref (ad G 20 0), .ref (ad G 22 0)] (kL_sweep l G P Vl_3  hBl_3 (by omega) hvl hvbL) gL_share_L_sweep rfl ⟨rfl, rfl⟩ (by decide +kernel) ⟨Nat.le_of_ble_eq_true rfl, Nat.le_of_ble_eq_true rfl⟩ rfl rfl (Nat.le_of_ble_eq_true rfl) rfl dL_share_81 (z_exI (fun r_3 P_3 V_3 h_3 => ?_))
        obtain ⟨hP_3, hB_3, hr_3, h_3⟩ := h_3
        rw [hP_3]
        have hsw := h_3
        have hsr := hr_3
        exact z_iret E Er0 dL_share_84 (⟨rfl, hB_3, Vl_3, hf, hvl, fun j p j0 j1 => hd j p j0 (by omega), hsr, hsw⟩)
      · skip
        refine z_lconst E 0 rfl dL_share_11 ?_
        refine z_lstore E dL_share_12 (L' := [some (.ref (ad G 16 0)), some (.ref (ad G 20 0)), some (.ref (ad G 21 0)), some (.ref (ad G 22 0)), some (.int (iI k)), some (.long (iL 0)), none, none, none]) (Nat.le_of_ble_eq_true rfl) rfl ?_
        refine z_iconst E dL_share_14 ?_
        refine z_istore E dL_share_15 (L' := [some (.ref (ad G 16 0)), some (.ref (ad G 20 0)), some (.ref (ad G 21 0)), some (.ref (ad G 22 0)), some (.int (iI k)), some (.long (iL 0)), none, some (.int (iI 0)), none]) (Nat.le_of_ble_eq_true rfl) rfl ?_
        have lp_17_4 : ∀ (fuel : Nat) (row : Int) (q : Int), (0 ≤ q) → (q ≤ 6) → (0 ≤ row ∧ row < 2 ^ (6 * q).toNat) → (∀ p, 0 ≤ p → p < q → rD row p = lkF (V 21 0) (V 22 0) (V 21 0 (rD (V 20 0 k) p)) (V 22 0 (rD (V 20 0 k) p)) (-1)) → (∀ p, 0 ≤ p → p < q → rD row p < 40) → (6 - q : Int).toNat < fuel → Kz X G P Vl_3 0 0 [some (.ref (ad G 16 0)), some (.ref (ad G 20 0)), some (.ref (ad G 21 0)), some (.ref (ad G 22 0)), some (.int (iI k)), some (.long (iL row)), none, some (.int (iI q)), none] 17 [] := by
          intro fuel
          induction fuel with
          | zero => intro row q hq0 hq1 hr0 hr1 hr2 hf_17; exact absurd hf_17 (Nat.not_lt_zero _)
          | succ fuel ih_17 =>
            intro row q hq0 hq1 hr0 hr1 hr2 hf_17
            refine z_iload E dL_share_17 rfl ?_
            refine z_bipush E dL_share_19 rfl ?_
            refine z_icmp_ge E 66 dL_share_21 rfl (by omega) (by omega) (fun c_5 => ?_) (fun c_5 => ?_)
            · skip
              refine z_aload_n E dL_share_66 1 rfl rfl ?_
              refine z_iload E dL_share_67 rfl ?_
              refine z_lload E dL_share_69 rfl ?_
              refine z_last E (rfl : vl G 20 0 = true) 16 (fun _ => rfl) (by omega) (by omega) (by omega) dL_share_71 ?_
              obtain ⟨V6, hV6⟩ : ∃ Z : Vt, Z = up Vl_3 20 0 (updI (Vl_3 20 0) k row) := ⟨_, rfl⟩
              rw [← hV6]
              have hB6 : BV V6 := hV6 ▸ BV_up hBl_3 (fun hz => absurd (by simp [ctr]) hz)
              refine z_iinc E k dL_share_72 (L' := [some (.ref (ad G 16 0)), some (.ref (ad G 20 0)), some (.ref (ad G 21 0)), some (.ref (ad G 22 0)), some (.int (iI (k + 1))), some (.long (iL row)), none, some (.int (iI q)), none]) (Nat.le_of_ble_eq_true rfl) rfl rfl ?_
              refine z_goto E 3 dL_share_75 rfl ?_
              refine Kz.drop 5 (L' := [some (.ref (ad G 16 0)), some (.ref (ad G 20 0)), some (.ref (ad G 21 0)), some (.ref (ad G 22 0)), some (.int (iI (k + 1))), none, none, some (.int (iI q)), none]) rfl ?_
              refine Kz.drop 7 (L' := [some (.ref (ad G 16 0)), some (.ref (ad G 20 0)), some (.ref (ad G 21 0)), some (.ref (ad G 22 0)), some (.int (iI (k + 1))), none, none, none, none]) rfl ?_
              exact ih_3 (k + 1) V6 hB6 (by omega) (by omega) (fun r w hz => by rw [hV6, up_o hz]; exact hf r w hz) (fun j => by rw [hV6, up_s]; by_cases e : j = k; (rw [e, updI_s]; exact ⟨⟨hr0.1, by have h6 := hr0.2; rw [show q = 6 by omega, p6_6] at h6; exact h6⟩, fun p p0 p1 => hr2 p p0 (by omega)⟩); (rw [updI_n e]; exact hvl j)) (fun j p j0 j1 p0 p1 => by rw [hV6, up_s]; by_cases e : j = k; (rw [e, updI_s]; exact hr1 p p0 (by omega)); (rw [updI_n e]; exact hd j p j0 (by omega) p0 p1)) (fun j hj => by rw [hV6, up_s, updI_n (by omega)]; exact hu j (by omega)) (by omega)
            · skip
              refine z_aload_n E dL_share_24 1 rfl rfl ?_
              refine z_iload E dL_share_25 rfl ?_
              refine z_iload E dL_share_27 rfl ?_
              refine z_callS E (n := 3) (st := []) [.ref (ad G 20 0), .int (iI k), .int (iI q)] (kL_block l G P Vl_3 k q (by omega) (by omega) (hvl _).1) gL_share_L_block rfl ⟨rfl, rfl⟩ (by decide +kernel) ⟨Nat.le_of_ble_eq_true rfl, Nat.le_of_ble_eq_true rfl⟩ rfl rfl (Nat.le_of_ble_eq_true rfl) rfl dL_share_29 (z_dtI ?_)
              rw [hu k (by omega)]
              have ho0 := rD_bd (x := V 20 0 k) (p := q)
              have ho1 := (hvr k).2 q hq0 (by omega)
              refine z_istore E dL_share_32 (L' := [some (.ref (ad G 16 0)), some (.ref (ad G 20 0)), some (.ref (ad G 21 0)), some (.ref (ad G 22 0)), some (.int (iI k)), some (.long (iL row)), none, some (.int (iI q)), some (.int (iI (rD (V 20 0 k) q)))]) (Nat.le_of_ble_eq_true rfl) rfl ?_
              refine z_lload E dL_share_34 rfl ?_
              refine z_aload_n E dL_share_36 2 rfl rfl ?_
              refine z_aload_n E dL_share_37 3 rfl rfl ?_
              refine z_aload_n E dL_share_38 2 rfl rfl ?_
              refine z_iload E dL_share_39 rfl ?_
              refine z_lald E (rfl : vl G 21 0 = true) 40 rfl (by omega) (by omega) (by omega) dL_share_41 ?_
              have hr_8 := hvaL (rD (V 20 0 k) q)
              refine z_aload_n E dL_share_42 3 rfl rfl ?_
              refine z_iload E dL_share_43 rfl ?_
              refine z_lald E (rfl : vl G 22 0 = true) 40 rfl (by omega) (by omega) (by omega) dL_share_45 ?_
              have hr_9 := hvbL (rD (V 20 0 k) q)
              refine z_iconst E dL_share_46 ?_
              refine z_callS E (n := 5) (st := [.long (iL row)]) [.ref (ad G 21 0), .ref (ad G 22 0), .long (iL (Vl_3 21 0 (rD (V 20 0 k) q))), .long (iL (Vl_3 22 0 (rD (V 20 0 k) q))), .int (iI (-1))] (kL_like l G P Vl_3 (Vl_3 21 0 (rD (V 20 0 k) q)) (Vl_3 22 0 (rD (V 20 0 k) q)) (-1) hvaL hvbL (by omega) (by omega) (by omega)) gL_share_L_like rfl ⟨rfl, rfl⟩ (by decide +kernel) ⟨Nat.le_of_ble_eq_true rfl, Nat.le_of_ble_eq_true rfl⟩ rfl rfl (Nat.le_of_ble_eq_true rfl) rfl dL_share_47 (z_dtI ?_)
              have h_10a := lkF_bd (A := Vl_3 21 0) (B := Vl_3 22 0) (low := (Vl_3 21 0 (rD (V 20 0 k) q))) (high := (Vl_3 22 0 (rD (V 20 0 k) q))) (bt := (-1))
              rw [g21, g22]
              have hl0 := lkF_self (A := V 21 0) (B := V 22 0) ho0.1 ho1 (hth k q hk0 (by omega) hq0 (by omega))
              have hl1 := (lkF_bd (A := V 21 0) (B := V 22 0) (low := V 21 0 (rD (V 20 0 k) q)) (high := V 22 0 (rD (V 20 0 k) q)) (bt := -1)).2
              have rr := rD_row hr0.1 hr0.2 hq0 (show q < 6 by omega) hl0 (by omega)
              refine z_i2l E (by omega) dL_share_50 ?_
              refine z_bipush E dL_share_51 rfl ?_
              refine z_iload E dL_share_53 rfl ?_
              refine z_imul E dL_share_55 ?_
              refine z_lshl E (hl0) (by omega) (by omega) dL_share_56 ?_
              refine z_lor E (lkF (V 21 0) (V 22 0) (V 21 0 (rD (V 20 0 k) q)) (V 22 0 (rD (V 20 0 k) q)) (-1)) (6 * q) rfl (hr0.1) (hr0.2) (hl0) (by omega) dL_share_57 ?_
              refine z_lstore E dL_share_58 (L' := [some (.ref (ad G 16 0)), some (.ref (ad G 20 0)), some (.ref (ad G 21 0)), some (.ref (ad G 22 0)), some (.int (iI k)), some (.long (iL (row + ((lkF (V 21 0) (V 22 0) (V 21 0 (rD (V 20 0 k) q)) (V 22 0 (rD (V 20 0 k) q)) (-1)) * 2 ^ (6 * q).toNat)))), none, some (.int (iI q)), some (.int (iI (rD (V 20 0 k) q)))]) (Nat.le_of_ble_eq_true rfl) rfl ?_
              refine z_iinc E q dL_share_60 (L' := [some (.ref (ad G 16 0)), some (.ref (ad G 20 0)), some (.ref (ad G 21 0)), some (.ref (ad G 22 0)), some (.int (iI k)), some (.long (iL (row + ((lkF (V 21 0) (V 22 0) (V 21 0 (rD (V 20 0 k) q)) (V 22 0 (rD (V 20 0 k) q)) (-1)) * 2 ^ (6 * q).toNat)))), none, some (.int (iI (q + 1))), some (.int (iI (rD (V 20 0 k) q)))]) (Nat.le_of_ble_eq_true rfl) rfl rfl ?_
              refine z_goto E 17 dL_share_63 rfl ?_
              refine Kz.drop 8 (L' := [some (.ref (ad G 16 0)), some (.ref (ad G 20 0)), some (.ref (ad G 21 0)), some (.ref (ad G 22 0)), some (.int (iI k)), some (.long (iL (row + ((lkF (V 21 0) (V 22 0) (V 21 0 (rD (V 20 0 k) q)) (V 22 0 (rD (V 20 0 k) q)) (-1)) * 2 ^ (6 * q).toNat)))), none, some (.int (iI (q + 1))), none]) rfl ?_
              exact ih_17 (row + ((lkF (V 21 0) (V 22 0) (V 21 0 (rD (V 20 0 k) q)) (V 22 0 (rD (V 20 0 k) q)) (-1)) * 2 ^ (6 * q).toNat)) (q + 1) (by omega) (by omega) ⟨rr.1, rr.2.1⟩ (rD_step hr0.1 hr0.2 hq0 (by omega) hl0 hl1 hr1 rfl) (rD_step40 hr0.1 hr0.2 hq0 (by omega) hl0 hl1 hr2) (by omega)
        exact lp_17_4 ((6 - 0 : Int).toNat + 1) 0 0 (by omega) (by omega) ⟨by omega, by rw [p6_0]; omega⟩ (fun p p0 p1 => absurd p1 (by omega)) (fun p p0 p1 => absurd p1 (by omega)) (Nat.lt_succ_self _)
  exact lp_3_1 ((V 16 0 0 - 0 : Int).toNat + 1) 0 V hB (by omega) (by omega) (fun _ _ _ => rfl) hvr (fun j p j0 j1 _ _ => absurd j1 (by omega)) (fun _ _ => rfl) (Nat.lt_succ_self _)
