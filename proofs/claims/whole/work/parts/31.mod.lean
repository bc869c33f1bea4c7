set_option maxHeartbeats 4000000 in
set_option maxRecDepth 100000 in
theorem kX6_isRow (l : Launch) (G : Gl) (P : Nat → Nat) (V : Vt) (src : Int) (many : Int) (a1 : inR src) (a2 : inR many) : Met l yX6_isRow wsX6_isRow ({ frames := 1, cells := 0, slots := 0, locals := 22 }) (va_Pc [.int (iI src), .int (iI many)] (Sg G P V)) (Qk G mkI (dt (b2i ((0 ≤ src ∧ src ≤ 47) ∧ 1 ≤ many ∧ many ≤ 48 - src)) P V)) 0 0 (mem G) := by
  refine z_met (cc := cX6_isRow) (nL := 2) (ret := (some .boolean)) (own := RX6) (by decide +kernel) rfl rfl (Nat.le_of_ble_eq_true rfl) (zz_cat rfl) (L := [some (.int (iI src)), some (.int (iI many))]) rfl ?_
  intro X E
  refine z_iload_n E dX6_isRow_0 0 rfl rfl ?_
  refine z_iconst E dX6_isRow_1 ?_
  refine z_bipush E dX6_isRow_2 rfl ?_
  refine z_callS E (n := 3) (st := []) [.int (iI src), .int (iI 0), .int (iI 47)] (kX6_in l G P V src 0 47 (by omega) (by omega) (by omega)) gX6_isRow_X6_in rfl ⟨rfl, rfl⟩ (by decide +kernel) ⟨Nat.le_of_ble_eq_true rfl, Nat.le_of_ble_eq_true rfl⟩ rfl rfl (Nat.le_of_ble_eq_true rfl) rfl dX6_isRow_4 (z_dtI ?_)
  refine z_ifeq_b E 26 dX6_isRow_7 rfl (fun c_2 => ?_) (fun c_2 => ?_)
  · skip
    refine z_iconst E dX6_isRow_26 ?_
    exact z_zret E dX6_isRow_27 (by first | decide | omega) (by first | exact ⟨(b2i_t (by omega)).symm, rfl, rfl⟩ | exact ⟨(b2i_f (by omega)).symm, rfl, rfl⟩ | exact ⟨rfl, rfl, rfl⟩ | (exfalso; omega))
  · skip
    refine z_iload_n E dX6_isRow_10 1 rfl rfl ?_
    refine z_iconst E dX6_isRow_11 ?_
    refine z_bipush E dX6_isRow_12 rfl ?_
    refine z_iload_n E dX6_isRow_14 0 rfl rfl ?_
    refine z_isub E dX6_isRow_15 ?_
    refine z_callS E (n := 3) (st := []) [.int (iI many), .int (iI 1), .int (iI (48 - src))] (kX6_in l G P V many 1 (48 - src) (by omega) (by omega) (by omega)) gX6_isRow_X6_in rfl ⟨rfl, rfl⟩ (by decide +kernel) ⟨Nat.le_of_ble_eq_true rfl, Nat.le_of_ble_eq_true rfl⟩ rfl rfl (Nat.le_of_ble_eq_true rfl) rfl dX6_isRow_16 (z_dtI ?_)
    refine z_ifeq_b E 26 dX6_isRow_19 rfl (fun c_4 => ?_) (fun c_4 => ?_)
    · skip
      refine z_iconst E dX6_isRow_26 ?_
      exact z_zret E dX6_isRow_27 (by first | decide | omega) (by first | exact ⟨(b2i_t (by omega)).symm, rfl, rfl⟩ | exact ⟨(b2i_f (by omega)).symm, rfl, rfl⟩ | exact ⟨rfl, rfl, rfl⟩ | (exfalso; omega))
    · skip
      refine z_iconst E dX6_isRow_22 ?_
      refine z_goto E 27 dX6_isRow_23 rfl ?_
      exact z_zret E dX6_isRow_27 (by first | decide | omega) (by first | exact ⟨(b2i_t (by omega)).symm, rfl, rfl⟩ | exact ⟨(b2i_f (by omega)).symm, rfl, rfl⟩ | exact ⟨rfl, rfl, rfl⟩ | (exfalso; omega))

set_option maxHeartbeats 4000000 in
set_option maxRecDepth 100000 in
theorem kX6_isFrom (l : Launch) (G : Gl) (P : Nat → Nat) (V : Vt) (x : Int) (anc : Int) (hB : BV V) (hm0 : 0 ≤ V 17 0 0) (hm1 : V 17 0 0 ≤ 16) (hmL : ∀ k p, 0 ≤ k → k < 16 → 0 ≤ p → p < 6 → 0 ≤ mo (V 17 0) k (2 + p) ∧ mo (V 17 0) k (2 + p) < 40) (hI : MI (V 17 0)) (a1 : inR x) (a2 : inR anc) (a3 : 0 ≤ mS (V 17 0) x) (a4 : 0 ≤ anc) : Met l yX6_isFrom wsX6_isFrom ({ frames := 2, cells := 0, slots := 0, locals := 44 }) (va_Pc [.ref (ad G 16 0), .int (iI x), .int (iI anc)] (Sg G P V)) (Qk G mkI (dt (b2i (dnF (gM (V 17 0)) 16 x anc = anc)) P V)) 0 0 (mem G) := by
  refine z_met (cc := cX6_isFrom) (nL := 4) (ret := (some .boolean)) (own := RX6) (by decide +kernel) rfl rfl (Nat.le_of_ble_eq_true rfl) (zz_cat rfl) (L := [some (.ref (ad G 16 0)), some (.int (iI x)), some (.int (iI anc)), none]) rfl ?_
  intro X E
  refine z_iload_n E dX6_isFrom_0 1 rfl rfl ?_
  refine z_istore_n E dX6_isFrom_1 3 rfl (L' := [some (.ref (ad G 16 0)), some (.int (iI x)), some (.int (iI anc)), some (.int (iI x))]) (Nat.le_of_ble_eq_true rfl) rfl ?_
  have lp_2_1 : ∀ (fuel : Nat) (k : Int) (i : Int), (0 ≤ i) → (0 ≤ mS (V 17 0) k ∧ mS (V 17 0) k ≤ 15 - i) → (inR k) → (dnF (gM (V 17 0)) (16 - i).toNat k anc = dnF (gM (V 17 0)) 16 x anc) → (16 - i : Int).toNat < fuel → Kz X G P V [some (.ref (ad G 16 0)), some (.int (iI x)), some (.int (iI anc)), some (.int (iI k))] 2 [] := by
    intro fuel
    induction fuel with
    | zero => intro k i hi0 hi1 hkr hm hf_2; exact absurd hf_2 (Nat.not_lt_zero _)
    | succ fuel ih_2 =>
      intro k i hi0 hi1 hkr hm hf_2
      have hn := hI.nn hi1.1
      refine z_iload_n E dX6_isFrom_2 3 rfl rfl ?_
      refine z_iload_n E dX6_isFrom_3 2 rfl rfl ?_
      refine z_icmp_le E 21 dX6_isFrom_4 rfl (by omega) (by omega) (fun c_2 => ?_) (fun c_2 => ?_)
      · skip
        refine z_iload_n E dX6_isFrom_21 3 rfl rfl ?_
        refine z_iload_n E dX6_isFrom_22 2 rfl rfl ?_
        refine z_icmp_ne E 30 dX6_isFrom_23 rfl (by omega) (by omega) (fun c_3 => ?_) (fun c_3 => ?_)
        · skip
          refine z_iconst E dX6_isFrom_30 ?_
          exact z_zret E dX6_isFrom_31 (by first | decide | omega) (⟨by rw [← hm, dnF_e (by omega)]; first | exact (b2i_t (by assumption)).symm | exact (b2i_f (by assumption)).symm, rfl, rfl⟩)
        · skip
          refine z_iconst E dX6_isFrom_26 ?_
          refine z_goto E 31 dX6_isFrom_27 rfl ?_
          exact z_zret E dX6_isFrom_31 (by first | decide | omega) (⟨by rw [← hm, dnF_e (by omega)]; first | exact (b2i_t (by assumption)).symm | exact (b2i_f (by assumption)).symm, rfl, rfl⟩)
      · skip
        refine z_aload_n E dX6_isFrom_7 0 rfl rfl ?_
        refine z_aload_n E dX6_isFrom_8 0 rfl rfl ?_
        refine z_iload_n E dX6_isFrom_9 3 rfl rfl ?_
        refine z_callV E (ci := 6) (N := 16) (C := RX6) (T := TX6) (n := 1) (st := [.ref (ad G 16 0)]) (rfl : vl 16 0 = true) rfl rfl [.int (iI k)] (kX6_slot l G P V k hB (by omega) (by omega) (by omega)) gX6_isFrom_X6_slot rfl ⟨rfl, rfl⟩ (by decide +kernel) ⟨Nat.le_of_ble_eq_true rfl, Nat.le_of_ble_eq_true rfl⟩ rfl rfl (Nat.le_of_ble_eq_true rfl) rfl dX6_isFrom_10 (z_dtI ?_)
        have h_4a := mS_c (V 17 0) k
        rw [show fO (mS (V 17 0) k) = mS (V 17 0) k by omega]
        refine z_iconst E dX6_isFrom_13 ?_
        refine z_callV E (ci := 6) (N := 16) (C := RX6) (T := TX6) (n := 2) (st := []) (rfl : vl 16 0 = true) rfl rfl [.int (iI (mS (V 17 0) k)), .int (iI 1)] (kX6_of l G P V (mS (V 17 0) k) 1 hB (by omega) (by omega) (by omega) (by omega)) gX6_isFrom_X6_of rfl ⟨rfl, rfl⟩ (by decide +kernel) ⟨Nat.le_of_ble_eq_true rfl, Nat.le_of_ble_eq_true rfl⟩ rfl rfl (Nat.le_of_ble_eq_true rfl) rfl dX6_isFrom_14 (z_dtI ?_)
        have h_5a := mo_R hB (mS (V 17 0) k) 1 (by omega) (by omega)
        refine z_istore_n E dX6_isFrom_17 3 rfl (L' := [some (.ref (ad G 16 0)), some (.int (iI x)), some (.int (iI anc)), some (.int (iI (mo (V 17 0) (mS (V 17 0) k) 1)))]) (Nat.le_of_ble_eq_true rfl) rfl ?_
        refine z_goto E 2 dX6_isFrom_18 rfl ?_
        have hp := hI.par1 hi1.1 (show 0 < k by omega)
        exact ih_2 (mo (V 17 0) (mS (V 17 0) k) 1) (i + 1) (by omega) ⟨hp.1, by have z := hp.2.2; omega⟩ (by have z := hp.2.1; have z2 := (hI.nn hp.1).1; omega) (by rw [← hm, show (16 - i).toNat = (16 - (i + 1)).toNat + 1 by omega, dnF_s (by omega)] <;> rfl) (by omega)
  exact lp_2_1 ((16 - 0 : Int).toNat + 1) x 0 (by omega) (by have := hI.nn a3; have := hI.2.2.2.2.2; omega) (by omega) rfl (Nat.lt_succ_self _)

set_option maxHeartbeats 4000000 in
set_option maxRecDepth 100000 in
theorem kX6_common (l : Launch) (G : Gl) (P : Nat → Nat) (V : Vt) (one : Int) (other : Int) (hB : BV V) (hm0 : 0 ≤ V 17 0 0) (hm1 : V 17 0 0 ≤ 16) (hmL : ∀ k p, 0 ≤ k → k < 16 → 0 ≤ p → p < 6 → 0 ≤ mo (V 17 0) k (2 + p) ∧ mo (V 17 0) k (2 + p) < 40) (hI : MI (V 17 0)) (a1 : inR one) (a2 : inR other) (a3 : 0 ≤ mS (V 17 0) one) (a4 : 0 ≤ mS (V 17 0) other) : Met l yX6_common wsX6_common ({ frames := 3, cells := 0, slots := 0, locals := 67 }) (va_Pc [.ref (ad G 16 0), .int (iI one), .int (iI other)] (Sg G P V)) (Qk G mkI (dt (cmM (V 17 0) other 16 one) P V)) 0 0 (mem G) := by
  refine z_met (cc := cX6_common) (nL := 4) (ret := (some .int)) (own := RX6) (by decide +kernel) rfl rfl (Nat.le_of_ble_eq_true rfl) (zz_cat rfl) (L := [some (.ref (ad G 16 0)), some (.int (iI one)), some (.int (iI other)), none]) rfl ?_
  intro X E
  refine z_iload_n E dX6_common_0 1 rfl rfl ?_
  refine z_istore_n E dX6_common_1 3 rfl (L' := [some (.ref (ad G 16 0)), some (.int (iI one)), some (.int (iI other)), some (.int (iI one))]) (Nat.le_of_ble_eq_true rfl) rfl ?_
  have lp_2_1 : ∀ (fuel : Nat) (k : Int) (i : Int), (0 ≤ i) → (0 ≤ mS (V 17 0) k ∧ mS (V 17 0) k ≤ 15 - i) → (inR k) → (cmM (V 17 0) other (16 - i).toNat k = cmM (V 17 0) other 16 one) → (16 - i : Int).toNat < fuel → Kz X G P V [some (.ref (ad G 16 0)), some (.int (iI one)), some (.int (iI other)), some (.int (iI k))] 2 [] := by
    intro fuel
    induction fuel with
    | zero => intro k i hi0 hi1 hkr hm hf_2; exact absurd hf_2 (Nat.not_lt_zero _)
    | succ fuel ih_2 =>
      intro k i hi0 hi1 hkr hm hf_2
      have hn := hI.nn hi1.1
      refine z_aload_n E dX6_common_2 0 rfl rfl ?_
      refine z_iload_n E dX6_common_3 2 rfl rfl ?_
      refine z_iload_n E dX6_common_4 3 rfl rfl ?_
      refine z_callV E (ci := 6) (N := 16) (C := RX6) (T := TX6) (n := 2) (st := []) (rfl : vl 16 0 = true) rfl rfl [.int (iI other), .int (iI k)] (kX6_isFrom l G P V other k hB (by omega) (by omega) hmL hI (by omega) (by omega) (by omega) (by omega)) gX6_common_X6_isFrom rfl ⟨rfl, rfl⟩ (by decide +kernel) ⟨Nat.le_of_ble_eq_true rfl, Nat.le_of_ble_eq_true rfl⟩ rfl rfl (Nat.le_of_ble_eq_true rfl) rfl dX6_common_5 (z_dtI ?_)
      refine z_ifne_b E 25 dX6_common_8 rfl (fun c_3 => ?_) (fun c_3 => ?_)
      · skip
        refine z_iload_n E dX6_common_25 3 rfl rfl ?_
        exact z_iret E dX6_common_26 (⟨by rw [← hm, cmM_e (by assumption)], rfl, rfl⟩)
      · skip
        refine z_aload_n E dX6_common_11 0 rfl rfl ?_
        refine z_aload_n E dX6_common_12 0 rfl rfl ?_
        refine z_iload_n E dX6_common_13 3 rfl rfl ?_
        refine z_callV E (ci := 6) (N := 16) (C := RX6) (T := TX6) (n := 1) (st := [.ref (ad G 16 0)]) (rfl : vl 16 0 = true) rfl rfl [.int (iI k)] (kX6_slot l G P V k hB (by omega) (by omega) (by omega)) gX6_common_X6_slot rfl ⟨rfl, rfl⟩ (by decide +kernel) ⟨Nat.le_of_ble_eq_true rfl, Nat.le_of_ble_eq_true rfl⟩ rfl rfl (Nat.le_of_ble_eq_true rfl) rfl dX6_common_14 (z_dtI ?_)
        have h_4a := mS_c (V 17 0) k
        rw [show fO (mS (V 17 0) k) = mS (V 17 0) k by omega]
        refine z_iconst E dX6_common_17 ?_
        refine z_callV E (ci := 6) (N := 16) (C := RX6) (T := TX6) (n := 2) (st := []) (rfl : vl 16 0 = true) rfl rfl [.int (iI (mS (V 17 0) k)), .int (iI 1)] (kX6_of l G P V (mS (V 17 0) k) 1 hB (by omega) (by omega) (by omega) (by omega)) gX6_common_X6_of rfl ⟨rfl, rfl⟩ (by decide +kernel) ⟨Nat.le_of_ble_eq_true rfl, Nat.le_of_ble_eq_true rfl⟩ rfl rfl (Nat.le_of_ble_eq_true rfl) rfl dX6_common_18 (z_dtI ?_)
        have h_5a := mo_R hB (mS (V 17 0) k) 1 (by omega) (by omega)
        refine z_istore_n E dX6_common_21 3 rfl (L' := [some (.ref (ad G 16 0)), some (.int (iI one)), some (.int (iI other)), some (.int (iI (mo (V 17 0) (mS (V 17 0) k) 1)))]) (Nat.le_of_ble_eq_true rfl) rfl ?_
        refine z_goto E 2 dX6_common_22 rfl ?_
        have hk0 : 0 < k := by
          rcases Int.lt_or_le 0 k with q | q
          · exact q
          · have e : k = 0 := by omega
            subst e
            have z := hI.nn a4
            have z2 := hI.2.2.2.2.2
            exact absurd (dnF_0 hI 16 other a4 (by omega)) (by assumption)
        have hp := hI.par1 hi1.1 hk0
        exact ih_2 (mo (V 17 0) (mS (V 17 0) k) 1) (i + 1) (by omega) ⟨hp.1, by have z := hp.2.2; omega⟩ (by have z := hp.2.1; have z2 := (hI.nn hp.1).1; omega) (by rw [← hm, show (16 - i).toNat = (16 - (i + 1)).toNat + 1 by omega, cmM_s (by assumption)] <;> rfl) (by have z := hp.2.2; have z2 := hp.1; omega)
  exact lp_2_1 ((16 - 0 : Int).toNat + 1) one 0 (by omega) (by have := hI.nn a3; have := hI.2.2.2.2.2; omega) (by omega) rfl (Nat.lt_succ_self _)

set_option maxHeartbeats 4000000 in
set_option maxRecDepth 100000 in
theorem kX6_children (l : Launch) (G : Gl) (P : Nat → Nat) (V : Vt) (x : Int) (hB : BV V) (hm0 : 0 ≤ V 17 0 0) (hm1 : V 17 0 0 ≤ 16) (a1 : inR x) : Met l yX6_children wsX6_children ({ frames := 1, cells := 0, slots := 0, locals := 22 }) (va_Pc [.ref (ad G 16 0), .int (iI x)] (Sg G P V)) (Qk G mkI (dt (sm (V 17 0 0) (fun k => b2i (mo (V 17 0) k 1 = x))) P V)) 0 0 (mem G) := by
  refine z_met (cc := cX6_children) (nL := 4) (ret := (some .int)) (own := RX6) (by decide +kernel) rfl rfl (Nat.le_of_ble_eq_true rfl) (zz_cat rfl) (L := [some (.ref (ad G 16 0)), some (.int (iI x)), none, none]) rfl ?_
  intro X E
  have iX6 : ∀ x ∈ wsX60, x ∈ wsX6_children := by decide +kernel
  have f0 : Cond.fieldLink RX6 7 "SharedStatesModel" "s" "[I" ∈ wsX6_children := by decide +kernel
  refine z_iconst E dX6_children_0 ?_
  refine z_istore_n E dX6_children_1 2 rfl (L' := [some (.ref (ad G 16 0)), some (.int (iI x)), some (.int (iI 0)), none]) (Nat.le_of_ble_eq_true rfl) rfl ?_
  refine z_iconst E dX6_children_2 ?_
  refine z_istore_n E dX6_children_3 3 rfl (L' := [some (.ref (ad G 16 0)), some (.int (iI x)), some (.int (iI 0)), some (.int (iI 0))]) (Nat.le_of_ble_eq_true rfl) rfl ?_
  have lp_4_1 : ∀ (fuel : Nat) (m : Int) (k : Int), (0 ≤ k) → (k ≤ V 17 0 0) → (m = sm k (fun k => b2i (mo (V 17 0) k 1 = x))) → (V 17 0 0 - k : Int).toNat < fuel → Kz X G P V [some (.ref (ad G 16 0)), some (.int (iI x)), some (.int (iI m)), some (.int (iI k))] 4 [] := by
    intro fuel
    induction fuel with
    | zero => intro m k hk0 hk1 hs hf_4; exact absurd hf_4 (Nat.not_lt_zero _)
    | succ fuel ih_4 =>
      intro m k hk0 hk1 hs hf_4
      refine z_iload_n E dX6_children_4 3 rfl rfl ?_
      refine z_aload_n E dX6_children_5 0 rfl rfl ?_
      refine z_get E (ci := 6) (N := 16) (C := RX6) (T := TX6) (rfl : vl 16 0 = true) rfl rfl iX6 0 (by decide) rfl f0 rfl dX6_children_6 ?_
      refine z_iconst E dX6_children_9 ?_
      refine z_iald E (rfl : vl 17 0 = true) 498 rfl (by omega) (by omega) (by omega) dX6_children_10 ?_
      have hr_2 := hB.s 0 (by omega)
      refine z_icmp_ge E 38 dX6_children_11 rfl (by omega) (by omega) (fun c_3 => ?_) (fun c_3 => ?_)
      · skip
        refine z_iload_n E dX6_children_38 2 rfl rfl ?_
        exact z_iret E dX6_children_39 (⟨by rw [hs, show k = V 17 0 0 by omega], rfl, rfl⟩)
      · skip
        refine z_iload_n E dX6_children_14 2 rfl rfl ?_
        refine z_aload_n E dX6_children_15 0 rfl rfl ?_
        refine z_iload_n E dX6_children_16 3 rfl rfl ?_
        refine z_iconst E dX6_children_17 ?_
        refine z_callV E (ci := 6) (N := 16) (C := RX6) (T := TX6) (n := 2) (st := [.int (iI m)]) (rfl : vl 16 0 = true) rfl rfl [.int (iI k), .int (iI 1)] (kX6_of l G P V k 1 hB (by omega) (by omega) (by omega) (by omega)) gX6_children_X6_of rfl ⟨rfl, rfl⟩ (by decide +kernel) ⟨Nat.le_of_ble_eq_true rfl, Nat.le_of_ble_eq_true rfl⟩ rfl rfl (Nat.le_of_ble_eq_true rfl) rfl dX6_children_18 (z_dtI ?_)
        have h_4a := mo_R hB k 1 (by omega) (by omega)
        refine z_iload_n E dX6_children_21 1 rfl rfl ?_
        refine z_icmp_ne E 29 dX6_children_22 rfl (by omega) (by omega) (fun c_5 => ?_) (fun c_5 => ?_)
        · skip
          refine z_iconst E dX6_children_29 ?_
          refine z_iadd E dX6_children_30 ?_
          refine z_istore_n E dX6_children_31 2 rfl (L' := [some (.ref (ad G 16 0)), some (.int (iI x)), some (.int (iI (m + 0))), some (.int (iI k))]) (Nat.le_of_ble_eq_true rfl) rfl ?_
          refine z_iinc E k dX6_children_32 (L' := [some (.ref (ad G 16 0)), some (.int (iI x)), some (.int (iI (m + 0))), some (.int (iI (k + 1)))]) (Nat.le_of_ble_eq_true rfl) rfl rfl ?_
          refine z_goto E 4 dX6_children_35 rfl ?_
          exact ih_4 (m + 0) (k + 1) (by omega) (by omega) (by first | exact smb_t hs (by omega) (by first | assumption | omega) | exact smb_f hs (by omega) (by first | assumption | omega) | exact smb_f0 hs (by omega) (by first | assumption | omega)) (by omega)
        · skip
          refine z_iconst E dX6_children_25 ?_
          refine z_goto E 30 dX6_children_26 rfl ?_
          refine z_iadd E dX6_children_30 ?_
          refine z_istore_n E dX6_children_31 2 rfl (L' := [some (.ref (ad G 16 0)), some (.int (iI x)), some (.int (iI (m + 1))), some (.int (iI k))]) (Nat.le_of_ble_eq_true rfl) rfl ?_
          refine z_iinc E k dX6_children_32 (L' := [some (.ref (ad G 16 0)), some (.int (iI x)), some (.int (iI (m + 1))), some (.int (iI (k + 1)))]) (Nat.le_of_ble_eq_true rfl) rfl rfl ?_
          refine z_goto E 4 dX6_children_35 rfl ?_
          exact ih_4 (m + 1) (k + 1) (by omega) (by omega) (by first | exact smb_t hs (by omega) (by first | assumption | omega) | exact smb_f hs (by omega) (by first | assumption | omega) | exact smb_f0 hs (by omega) (by first | assumption | omega)) (by omega)
  exact lp_4_1 ((V 17 0 0 - 0 : Int).toNat + 1) 0 0 (by omega) (by omega) (sm_0 (by omega)).symm (Nat.lt_succ_self _)

set_option maxHeartbeats 4000000 in
set_option maxRecDepth 100000 in
theorem kX6_steps (l : Launch) (G : Gl) (P : Nat → Nat) (V : Vt) (x : Int) (hB : BV V) (hm0 : 0 ≤ V 17 0 0) (hm1 : V 17 0 0 ≤ 16) (hmL : ∀ k p, 0 ≤ k → k < 16 → 0 ≤ p → p < 6 → 0 ≤ mo (V 17 0) k (2 + p) ∧ mo (V 17 0) k (2 + p) < 40) (hI : MI (V 17 0)) (a1 : inR x) (a3 : 0 ≤ mS (V 17 0) x) : Met l yX6_steps wsX6_steps ({ frames := 2, cells := 0, slots := 0, locals := 44 }) (va_Pc [.ref (ad G 16 0), .int (iI x)] (Sg G P V)) (Qk G mkI (dt (itS (gM (V 17 0)) 16 x) P V)) 0 0 (mem G) := by
  refine z_met (cc := cX6_steps) (nL := 4) (ret := (some .int)) (own := RX6) (by decide +kernel) rfl rfl (Nat.le_of_ble_eq_true rfl) (zz_cat rfl) (L := [some (.ref (ad G 16 0)), some (.int (iI x)), none, none]) rfl ?_
  intro X E
  refine z_iconst E dX6_steps_0 ?_
  refine z_istore_n E dX6_steps_1 2 rfl (L' := [some (.ref (ad G 16 0)), some (.int (iI x)), some (.int (iI 0)), none]) (Nat.le_of_ble_eq_true rfl) rfl ?_
  refine z_iload_n E dX6_steps_2 1 rfl rfl ?_
  refine z_istore_n E dX6_steps_3 3 rfl (L' := [some (.ref (ad G 16 0)), some (.int (iI x)), some (.int (iI 0)), some (.int (iI x))]) (Nat.le_of_ble_eq_true rfl) rfl ?_
  have lp_4_1 : ∀ (fuel : Nat) (m : Int) (k : Int), (0 ≤ m) → (0 ≤ mS (V 17 0) k ∧ mS (V 17 0) k ≤ 15 - m) → (inR k) → (m + itS (gM (V 17 0)) (16 - m).toNat k = itS (gM (V 17 0)) 16 x) → (16 - m : Int).toNat < fuel → Kz X G P V [some (.ref (ad G 16 0)), some (.int (iI x)), some (.int (iI m)), some (.int (iI k))] 4 [] := by
    intro fuel
    induction fuel with
    | zero => intro m k hi0 hi1 hkr hm hf_4; exact absurd hf_4 (Nat.not_lt_zero _)
    | succ fuel ih_4 =>
      intro m k hi0 hi1 hkr hm hf_4
      have hn := hI.nn hi1.1
      refine z_iload_n E dX6_steps_4 3 rfl rfl ?_
      refine z_if_le E 25 dX6_steps_5 rfl (by omega) (fun c_2 => ?_) (fun c_2 => ?_)
      · skip
        refine z_iload_n E dX6_steps_25 2 rfl rfl ?_
        exact z_iret E dX6_steps_26 (⟨by rw [← hm, itS_0 (by omega)]; omega, rfl, rfl⟩)
      · skip
        refine z_iinc E m dX6_steps_8 (L' := [some (.ref (ad G 16 0)), some (.int (iI x)), some (.int (iI (m + 1))), some (.int (iI k))]) (Nat.le_of_ble_eq_true rfl) rfl rfl ?_
        refine z_aload_n E dX6_steps_11 0 rfl rfl ?_
        refine z_aload_n E dX6_steps_12 0 rfl rfl ?_
        refine z_iload_n E dX6_steps_13 3 rfl rfl ?_
        refine z_callV E (ci := 6) (N := 16) (C := RX6) (T := TX6) (n := 1) (st := [.ref (ad G 16 0)]) (rfl : vl 16 0 = true) rfl rfl [.int (iI k)] (kX6_slot l G P V k hB (by omega) (by omega) (by omega)) gX6_steps_X6_slot rfl ⟨rfl, rfl⟩ (by decide +kernel) ⟨Nat.le_of_ble_eq_true rfl, Nat.le_of_ble_eq_true rfl⟩ rfl rfl (Nat.le_of_ble_eq_true rfl) rfl dX6_steps_14 (z_dtI ?_)
        have h_3a := mS_c (V 17 0) k
        rw [show fO (mS (V 17 0) k) = mS (V 17 0) k by omega]
        refine z_iconst E dX6_steps_17 ?_
        refine z_callV E (ci := 6) (N := 16) (C := RX6) (T := TX6) (n := 2) (st := []) (rfl : vl 16 0 = true) rfl rfl [.int (iI (mS (V 17 0) k)), .int (iI 1)] (kX6_of l G P V (mS (V 17 0) k) 1 hB (by omega) (by omega) (by omega) (by omega)) gX6_steps_X6_of rfl ⟨rfl, rfl⟩ (by decide +kernel) ⟨Nat.le_of_ble_eq_true rfl, Nat.le_of_ble_eq_true rfl⟩ rfl rfl (Nat.le_of_ble_eq_true rfl) rfl dX6_steps_18 (z_dtI ?_)
        have h_4a := mo_R hB (mS (V 17 0) k) 1 (by omega) (by omega)
        refine z_istore_n E dX6_steps_21 3 rfl (L' := [some (.ref (ad G 16 0)), some (.int (iI x)), some (.int (iI (m + 1))), some (.int (iI (mo (V 17 0) (mS (V 17 0) k) 1)))]) (Nat.le_of_ble_eq_true rfl) rfl ?_
        refine z_goto E 4 dX6_steps_22 rfl ?_
        have hp := hI.par1 hi1.1 (by assumption)
        exact ih_4 (m + 1) (mo (V 17 0) (mS (V 17 0) k) 1) (by omega) ⟨hp.1, by have z := hp.2.2; omega⟩ (by have z := hp.2.1; have z2 := (hI.nn hp.1).1; omega) (by rw [← hm, show (16 - m).toNat = (16 - (m + 1)).toNat + 1 by omega, itS_s (by omega)]; show m + 1 + itS _ _ (gM (V 17 0) k) = _; omega) (by omega)
  exact lp_4_1 ((16 - 0 : Int).toNat + 1) 0 x (by omega) (by have := hI.nn a3; have := hI.2.2.2.2.2; omega) (by omega) (Int.zero_add _) (Nat.lt_succ_self _)

set_option maxHeartbeats 4000000 in
set_option maxRecDepth 100000 in
theorem kX6_sum (l : Launch) (G : Gl) (P : Nat → Nat) (V : Vt) (k : Int) (hB : BV V) (hm0 : 0 ≤ V 17 0 0) (hm1 : V 17 0 0 ≤ 16) (hmL : ∀ k p, 0 ≤ k → k < 16 → 0 ≤ p → p < 6 → 0 ≤ mo (V 17 0) k (2 + p) ∧ mo (V 17 0) k (2 + p) < 40) (a1 : 0 ≤ k) (a2 : k < 16) : Met l yX6_sum wsX6_sum ({ frames := 2, cells := 0, slots := 0, locals := 44 }) (va_Pc [.ref (ad G 16 0), .int (iI k)] (Sg G P V)) (Qk G mkI (dt (sm 48 (fun c => mc (V 17 0) k c)) P V)) 0 0 (mem G) := by
  refine z_met (cc := cX6_sum) (nL := 4) (ret := (some .int)) (own := RX6) (by decide +kernel) rfl rfl (Nat.le_of_ble_eq_true rfl) (zz_cat rfl) (L := [some (.ref (ad G 16 0)), some (.int (iI k)), none, none]) rfl ?_
  intro X E
  refine z_iconst E dX6_sum_0 ?_
  refine z_istore_n E dX6_sum_1 2 rfl (L' := [some (.ref (ad G 16 0)), some (.int (iI k)), some (.int (iI 0)), none]) (Nat.le_of_ble_eq_true rfl) rfl ?_
  refine z_iconst E dX6_sum_2 ?_
  refine z_istore_n E dX6_sum_3 3 rfl (L' := [some (.ref (ad G 16 0)), some (.int (iI k)), some (.int (iI 0)), some (.int (iI 0))]) (Nat.le_of_ble_eq_true rfl) rfl ?_
  have lp_4_1 : ∀ (fuel : Nat) (m : Int) (c : Int), (0 ≤ c) → (c ≤ 48) → (m = sm c (fun c => mc (V 17 0) k c)) → (48 - c : Int).toNat < fuel → Kz X G P V [some (.ref (ad G 16 0)), some (.int (iI k)), some (.int (iI m)), some (.int (iI c))] 4 [] := by
    intro fuel
    induction fuel with
    | zero => intro m c hk0 hk1 hs hf_4; exact absurd hf_4 (Nat.not_lt_zero _)
    | succ fuel ih_4 =>
      intro m c hk0 hk1 hs hf_4
      refine z_iload_n E dX6_sum_4 3 rfl rfl ?_
      refine z_bipush E dX6_sum_5 rfl ?_
      refine z_icmp_ge E 25 dX6_sum_7 rfl (by omega) (by omega) (fun c_2 => ?_) (fun c_2 => ?_)
      · skip
        refine z_iload_n E dX6_sum_25 2 rfl rfl ?_
        exact z_iret E dX6_sum_26 (⟨by rw [hs, show c = 48 by omega], rfl, rfl⟩)
      · skip
        refine z_iload_n E dX6_sum_10 2 rfl rfl ?_
        refine z_aload_n E dX6_sum_11 0 rfl rfl ?_
        refine z_iload_n E dX6_sum_12 1 rfl rfl ?_
        refine z_iload_n E dX6_sum_13 3 rfl rfl ?_
        refine z_callV E (ci := 6) (N := 16) (C := RX6) (T := TX6) (n := 2) (st := [.int (iI m)]) (rfl : vl 16 0 = true) rfl rfl [.int (iI k), .int (iI c)] (kX6_cellOf l G P V k c hB (by omega) (by omega) hmL (by omega) (by omega) (by omega) (by omega)) gX6_sum_X6_cellOf rfl ⟨rfl, rfl⟩ (by decide +kernel) ⟨Nat.le_of_ble_eq_true rfl, Nat.le_of_ble_eq_true rfl⟩ rfl rfl (Nat.le_of_ble_eq_true rfl) rfl dX6_sum_14 (z_dtI ?_)
        have h_3a := mc_R hB hmL k c (by omega) (by omega) (by omega) (by omega)
        refine z_iadd E dX6_sum_17 ?_
        refine z_istore_n E dX6_sum_18 2 rfl (L' := [some (.ref (ad G 16 0)), some (.int (iI k)), some (.int (iI (m + (mc (V 17 0) k c)))), some (.int (iI c))]) (Nat.le_of_ble_eq_true rfl) rfl ?_
        refine z_iinc E c dX6_sum_19 (L' := [some (.ref (ad G 16 0)), some (.int (iI k)), some (.int (iI (m + (mc (V 17 0) k c)))), some (.int (iI (c + 1)))]) (Nat.le_of_ble_eq_true rfl) rfl rfl ?_
        refine z_goto E 4 dX6_sum_22 rfl ?_
        exact ih_4 (m + (mc (V 17 0) k c)) (c + 1) (by omega) (by omega) (by rw [sm_s (by omega), ← hs]) (by omega)
  exact lp_4_1 ((48 - 0 : Int).toNat + 1) 0 0 (by omega) (by omega) (sm_0 (by omega)).symm (Nat.lt_succ_self _)

set_option maxHeartbeats 4000000 in
set_option maxRecDepth 100000 in
theorem kX6_otherPlaces (l : Launch) (G : Gl) (P : Nat → Nat) (V : Vt) (k : Int) (o : Int) (hB : BV V) (hm0 : 0 ≤ V 17 0 0) (hm1 : V 17 0 0 ≤ 16) (hmL : ∀ k p, 0 ≤ k → k < 16 → 0 ≤ p → p < 6 → 0 ≤ mo (V 17 0) k (2 + p) ∧ mo (V 17 0) k (2 + p) < 40) (a1 : 0 ≤ k) (a2 : k < 16) (a3 : 0 ≤ o) (a4 : o < 16) : Met l yX6_otherPlaces wsX6_otherPlaces ({ frames := 1, cells := 0, slots := 0, locals := 22 }) (va_Pc [.ref (ad G 16 0), .int (iI k), .int (iI o)] (Sg G P V)) (Qk G mkI (dt (sm 6 (fun p => b2i (¬ mo (V 17 0) k (2 + p) = mo (V 17 0) o (2 + p)))) P V)) 0 0 (mem G) := by
  refine z_met (cc := cX6_otherPlaces) (nL := 5) (ret := (some .int)) (own := RX6) (by decide +kernel) rfl rfl (Nat.le_of_ble_eq_true rfl) (zz_cat rfl) (L := [some (.ref (ad G 16 0)), some (.int (iI k)), some (.int (iI o)), none, none]) rfl ?_
  intro X E
  refine z_iconst E dX6_otherPlaces_0 ?_
  refine z_istore_n E dX6_otherPlaces_1 3 rfl (L' := [some (.ref (ad G 16 0)), some (.int (iI k)), some (.int (iI o)), some (.int (iI 0)), none]) (Nat.le_of_ble_eq_true rfl) rfl ?_
  refine z_iconst E dX6_otherPlaces_2 ?_
  refine z_istore E dX6_otherPlaces_3 (L' := [some (.ref (ad G 16 0)), some (.int (iI k)), some (.int (iI o)), some (.int (iI 0)), some (.int (iI 0))]) (Nat.le_of_ble_eq_true rfl) rfl ?_
  have lp_5_1 : ∀ (fuel : Nat) (m : Int) (p : Int), (0 ≤ p) → (p ≤ 6) → (m = sm p (fun p => b2i (¬ mo (V 17 0) k (2 + p) = mo (V 17 0) o (2 + p)))) → (6 - p : Int).toNat < fuel → Kz X G P V [some (.ref (ad G 16 0)), some (.int (iI k)), some (.int (iI o)), some (.int (iI m)), some (.int (iI p))] 5 [] := by
    intro fuel
    induction fuel with
    | zero => intro m p hk0 hk1 hs hf_5; exact absurd hf_5 (Nat.not_lt_zero _)
    | succ fuel ih_5 =>
      intro m p hk0 hk1 hs hf_5
      refine z_iload E dX6_otherPlaces_5 rfl ?_
      refine z_bipush E dX6_otherPlaces_7 rfl ?_
      refine z_icmp_ge E 47 dX6_otherPlaces_9 rfl (by omega) (by omega) (fun c_2 => ?_) (fun c_2 => ?_)
      · skip
        refine z_iload_n E dX6_otherPlaces_47 3 rfl rfl ?_
        exact z_iret E dX6_otherPlaces_48 (⟨by rw [hs, show p = 6 by omega], rfl, rfl⟩)
      · skip
        refine z_iload_n E dX6_otherPlaces_12 3 rfl rfl ?_
        refine z_aload_n E dX6_otherPlaces_13 0 rfl rfl ?_
        refine z_iload_n E dX6_otherPlaces_14 1 rfl rfl ?_
        refine z_iconst E dX6_otherPlaces_15 ?_
        refine z_iload E dX6_otherPlaces_16 rfl ?_
        refine z_iadd E dX6_otherPlaces_18 ?_
        refine z_callV E (ci := 6) (N := 16) (C := RX6) (T := TX6) (n := 2) (st := [.int (iI m)]) (rfl : vl 16 0 = true) rfl rfl [.int (iI k), .int (iI (2 + p))] (kX6_of l G P V k (2 + p) hB (by omega) (by omega) (by omega) (by omega)) gX6_otherPlaces_X6_of rfl ⟨rfl, rfl⟩ (by decide +kernel) ⟨Nat.le_of_ble_eq_true rfl, Nat.le_of_ble_eq_true rfl⟩ rfl rfl (Nat.le_of_ble_eq_true rfl) rfl dX6_otherPlaces_19 (z_dtI ?_)
        have h_3a := mo_R hB k (2 + p) (by omega) (by omega)
        refine z_aload_n E dX6_otherPlaces_22 0 rfl rfl ?_
        refine z_iload_n E dX6_otherPlaces_23 2 rfl rfl ?_
        refine z_iconst E dX6_otherPlaces_24 ?_
        refine z_iload E dX6_otherPlaces_25 rfl ?_
        refine z_iadd E dX6_otherPlaces_27 ?_
        refine z_callV E (ci := 6) (N := 16) (C := RX6) (T := TX6) (n := 2) (st := [.int (iI (mo (V 17 0) k (2 + p))), .int (iI m)]) (rfl : vl 16 0 = true) rfl rfl [.int (iI o), .int (iI (2 + p))] (kX6_of l G P V o (2 + p) hB (by omega) (by omega) (by omega) (by omega)) gX6_otherPlaces_X6_of rfl ⟨rfl, rfl⟩ (by decide +kernel) ⟨Nat.le_of_ble_eq_true rfl, Nat.le_of_ble_eq_true rfl⟩ rfl rfl (Nat.le_of_ble_eq_true rfl) rfl dX6_otherPlaces_28 (z_dtI ?_)
        have h_4a := mo_R hB o (2 + p) (by omega) (by omega)
        refine z_icmp_eq E 38 dX6_otherPlaces_31 rfl (by omega) (by omega) (fun c_5 => ?_) (fun c_5 => ?_)
        · skip
          refine z_iconst E dX6_otherPlaces_38 ?_
          refine z_iadd E dX6_otherPlaces_39 ?_
          refine z_istore_n E dX6_otherPlaces_40 3 rfl (L' := [some (.ref (ad G 16 0)), some (.int (iI k)), some (.int (iI o)), some (.int (iI (m + 0))), some (.int (iI p))]) (Nat.le_of_ble_eq_true rfl) rfl ?_
          refine z_iinc E p dX6_otherPlaces_41 (L' := [some (.ref (ad G 16 0)), some (.int (iI k)), some (.int (iI o)), some (.int (iI (m + 0))), some (.int (iI (p + 1)))]) (Nat.le_of_ble_eq_true rfl) rfl rfl ?_
          refine z_goto E 5 dX6_otherPlaces_44 rfl ?_
          exact ih_5 (m + 0) (p + 1) (by omega) (by omega) (by first | exact smb_t hs (by omega) (by assumption) | exact smb_f hs (by omega) (fun z => z (by assumption))) (by omega)
        · skip
          refine z_iconst E dX6_otherPlaces_34 ?_
          refine z_goto E 39 dX6_otherPlaces_35 rfl ?_
          refine z_iadd E dX6_otherPlaces_39 ?_
          refine z_istore_n E dX6_otherPlaces_40 3 rfl (L' := [some (.ref (ad G 16 0)), some (.int (iI k)), some (.int (iI o)), some (.int (iI (m + 1))), some (.int (iI p))]) (Nat.le_of_ble_eq_true rfl) rfl ?_
          refine z_iinc E p dX6_otherPlaces_41 (L' := [some (.ref (ad G 16 0)), some (.int (iI k)), some (.int (iI o)), some (.int (iI (m + 1))), some (.int (iI (p + 1)))]) (Nat.le_of_ble_eq_true rfl) rfl rfl ?_
          refine z_goto E 5 dX6_otherPlaces_44 rfl ?_
          exact ih_5 (m + 1) (p + 1) (by omega) (by omega) (by first | exact smb_t hs (by omega) (by assumption) | exact smb_f hs (by omega) (fun z => z (by assumption))) (by omega)
  exact lp_5_1 ((6 - 0 : Int).toNat + 1) 0 0 (by omega) (by omega) (sm_0 (by omega)).symm (Nat.lt_succ_self _)

set_option maxHeartbeats 4000000 in
set_option maxRecDepth 100000 in
theorem kX6_ownPlaces (l : Launch) (G : Gl) (P : Nat → Nat) (V : Vt) (k : Int) (hB : BV V) (hm0 : 0 ≤ V 17 0 0) (hm1 : V 17 0 0 ≤ 16) (hmL : ∀ k p, 0 ≤ k → k < 16 → 0 ≤ p → p < 6 → 0 ≤ mo (V 17 0) k (2 + p) ∧ mo (V 17 0) k (2 + p) < 40) (a1 : 0 ≤ k) (a2 : k < 16) : Met l yX6_ownPlaces wsX6_ownPlaces ({ frames := 3, cells := 0, slots := 0, locals := 69 }) (va_Pc [.ref (ad G 16 0), .int (iI k)] (Sg G P V)) (Qk G mkI (dt (sm 6 (fun p => b2i (sm (V 17 0 0) (fun j => b2i (∃ q, 0 ≤ q ∧ q < 6 ∧ mo (V 17 0) j (2 + q) = mo (V 17 0) k (2 + p))) = 1))) P V)) 0 0 (mem G) := by
  refine z_met (cc := cX6_ownPlaces) (nL := 4) (ret := (some .int)) (own := RX6) (by decide +kernel) rfl rfl (Nat.le_of_ble_eq_true rfl) (zz_cat rfl) (L := [some (.ref (ad G 16 0)), some (.int (iI k)), none, none]) rfl ?_
  intro X E
  refine z_iconst E dX6_ownPlaces_0 ?_
  refine z_istore_n E dX6_ownPlaces_1 2 rfl (L' := [some (.ref (ad G 16 0)), some (.int (iI k)), some (.int (iI 0)), none]) (Nat.le_of_ble_eq_true rfl) rfl ?_
  refine z_iconst E dX6_ownPlaces_2 ?_
  refine z_istore_n E dX6_ownPlaces_3 3 rfl (L' := [some (.ref (ad G 16 0)), some (.int (iI k)), some (.int (iI 0)), some (.int (iI 0))]) (Nat.le_of_ble_eq_true rfl) rfl ?_
  have lp_4_1 : ∀ (fuel : Nat) (m : Int) (p : Int), (0 ≤ p) → (p ≤ 6) → (m = sm p (fun p => b2i (sm (V 17 0 0) (fun j => b2i (∃ q, 0 ≤ q ∧ q < 6 ∧ mo (V 17 0) j (2 + q) = mo (V 17 0) k (2 + p))) = 1))) → (6 - p : Int).toNat < fuel → Kz X G P V [some (.ref (ad G 16 0)), some (.int (iI k)), some (.int (iI m)), some (.int (iI p))] 4 [] := by
    intro fuel
    induction fuel with
    | zero => intro m p hk0 hk1 hs hf_4; exact absurd hf_4 (Nat.not_lt_zero _)
    | succ fuel ih_4 =>
      intro m p hk0 hk1 hs hf_4
      refine z_iload_n E dX6_ownPlaces_4 3 rfl rfl ?_
      refine z_bipush E dX6_ownPlaces_5 rfl ?_
      refine z_icmp_ge E 40 dX6_ownPlaces_7 rfl (by omega) (by omega) (fun c_2 => ?_) (fun c_2 => ?_)
      · skip
        refine z_iload_n E dX6_ownPlaces_40 2 rfl rfl ?_
        exact z_iret E dX6_ownPlaces_41 (⟨by rw [hs, show p = 6 by omega], rfl, rfl⟩)
      · skip
        refine z_iload_n E dX6_ownPlaces_10 2 rfl rfl ?_
        refine z_aload_n E dX6_ownPlaces_11 0 rfl rfl ?_
        refine z_aload_n E dX6_ownPlaces_12 0 rfl rfl ?_
        refine z_iload_n E dX6_ownPlaces_13 1 rfl rfl ?_
        refine z_iconst E dX6_ownPlaces_14 ?_
        refine z_iload_n E dX6_ownPlaces_15 3 rfl rfl ?_
        refine z_iadd E dX6_ownPlaces_16 ?_
        refine z_callV E (ci := 6) (N := 16) (C := RX6) (T := TX6) (n := 2) (st := [.ref (ad G 16 0), .int (iI m)]) (rfl : vl 16 0 = true) rfl rfl [.int (iI k), .int (iI (2 + p))] (kX6_of l G P V k (2 + p) hB (by omega) (by omega) (by omega) (by omega)) gX6_ownPlaces_X6_of rfl ⟨rfl, rfl⟩ (by decide +kernel) ⟨Nat.le_of_ble_eq_true rfl, Nat.le_of_ble_eq_true rfl⟩ rfl rfl (Nat.le_of_ble_eq_true rfl) rfl dX6_ownPlaces_17 (z_dtI ?_)
        have h_3a := mo_R hB k (2 + p) (by omega) (by omega)
        refine z_callV E (ci := 6) (N := 16) (C := RX6) (T := TX6) (n := 1) (st := [.int (iI m)]) (rfl : vl 16 0 = true) rfl rfl [.int (iI (mo (V 17 0) k (2 + p)))] (kX6_statesWith l G P V (mo (V 17 0) k (2 + p)) hB (by omega) (by omega) hmL (by omega)) gX6_ownPlaces_X6_statesWith rfl ⟨rfl, rfl⟩ (by decide +kernel) ⟨Nat.le_of_ble_eq_true rfl, Nat.le_of_ble_eq_true rfl⟩ rfl rfl (Nat.le_of_ble_eq_true rfl) rfl dX6_ownPlaces_20 (z_dtI ?_)
        have h_4a := sm_b2i_bd (n := V 17 0 0) (p := fun jj => ∃ qq, 0 ≤ qq ∧ qq < 6 ∧ mo (V 17 0) jj (2 + qq) = (mo (V 17 0) k (2 + p))) (by omega)
        refine z_iconst E dX6_ownPlaces_23 ?_
        refine z_icmp_ne E 31 dX6_ownPlaces_24 rfl (by omega) (by omega) (fun c_5 => ?_) (fun c_5 => ?_)
        · skip
          refine z_iconst E dX6_ownPlaces_31 ?_
          refine z_iadd E dX6_ownPlaces_32 ?_
          refine z_istore_n E dX6_ownPlaces_33 2 rfl (L' := [some (.ref (ad G 16 0)), some (.int (iI k)), some (.int (iI (m + 0))), some (.int (iI p))]) (Nat.le_of_ble_eq_true rfl) rfl ?_
          refine z_iinc E p dX6_ownPlaces_34 (L' := [some (.ref (ad G 16 0)), some (.int (iI k)), some (.int (iI (m + 0))), some (.int (iI (p + 1)))]) (Nat.le_of_ble_eq_true rfl) rfl rfl ?_
          refine z_goto E 4 dX6_ownPlaces_37 rfl ?_
          exact ih_4 (m + 0) (p + 1) (by omega) (by omega) (by first | exact smb_t hs (by omega) (by first | assumption | omega) | exact smb_f hs (by omega) (by first | assumption | omega) | exact smb_f0 hs (by omega) (by first | assumption | omega)) (by omega)
        · skip
          refine z_iconst E dX6_ownPlaces_27 ?_
          refine z_goto E 32 dX6_ownPlaces_28 rfl ?_
          refine z_iadd E dX6_ownPlaces_32 ?_
          refine z_istore_n E dX6_ownPlaces_33 2 rfl (L' := [some (.ref (ad G 16 0)), some (.int (iI k)), some (.int (iI (m + 1))), some (.int (iI p))]) (Nat.le_of_ble_eq_true rfl) rfl ?_
          refine z_iinc E p dX6_ownPlaces_34 (L' := [some (.ref (ad G 16 0)), some (.int (iI k)), some (.int (iI (m + 1))), some (.int (iI (p + 1)))]) (Nat.le_of_ble_eq_true rfl) rfl rfl ?_
          refine z_goto E 4 dX6_ownPlaces_37 rfl ?_
          exact ih_4 (m + 1) (p + 1) (by omega) (by omega) (by first | exact smb_t hs (by omega) (by first | assumption | omega) | exact smb_f hs (by omega) (by first | assumption | omega) | exact smb_f0 hs (by omega) (by first | assumption | omega)) (by omega)
  exact lp_4_1 ((6 - 0 : Int).toNat + 1) 0 0 (by omega) (by omega) (sm_0 (by omega)).symm (Nat.lt_succ_self _)

set_option maxHeartbeats 4000000 in
set_option maxRecDepth 100000 in
theorem kX6_unlikeBlocks (l : Launch) (G : Gl) (P : Nat → Nat) (V : Vt) (k : Int) (hB : BV V) (hm0 : 0 ≤ V 17 0 0) (hm1 : V 17 0 0 ≤ 16) (hmL : ∀ k p, 0 ≤ k → k < 16 → 0 ≤ p → p < 6 → 0 ≤ mo (V 17 0) k (2 + p) ∧ mo (V 17 0) k (2 + p) < 40) (a1 : 0 ≤ k) (a2 : k < 16) : Met l yX6_unlikeBlocks wsX6_unlikeBlocks ({ frames := 2, cells := 0, slots := 0, locals := 46 }) (va_Pc [.ref (ad G 16 0), .int (iI k)] (Sg G P V)) (Qk G mkI (dt (sm 40 (fun b => b2i (∃ p, 0 ≤ p ∧ p < 6 ∧ mo (V 17 0) k (2 + p) = b))) P V)) 0 0 (mem G) := by
  refine z_met (cc := cX6_unlikeBlocks) (nL := 4) (ret := (some .int)) (own := RX6) (by decide +kernel) rfl rfl (Nat.le_of_ble_eq_true rfl) (zz_cat rfl) (L := [some (.ref (ad G 16 0)), some (.int (iI k)), none, none]) rfl ?_
  intro X E
  refine z_iconst E dX6_unlikeBlocks_0 ?_
  refine z_istore_n E dX6_unlikeBlocks_1 2 rfl (L' := [some (.ref (ad G 16 0)), some (.int (iI k)), some (.int (iI 0)), none]) (Nat.le_of_ble_eq_true rfl) rfl ?_
  refine z_iconst E dX6_unlikeBlocks_2 ?_
  refine z_istore_n E dX6_unlikeBlocks_3 3 rfl (L' := [some (.ref (ad G 16 0)), some (.int (iI k)), some (.int (iI 0)), some (.int (iI 0))]) (Nat.le_of_ble_eq_true rfl) rfl ?_
  have lp_4_1 : ∀ (fuel : Nat) (m : Int) (b : Int), (0 ≤ b) → (b ≤ 40) → (m = sm b (fun b => b2i (∃ p, 0 ≤ p ∧ p < 6 ∧ mo (V 17 0) k (2 + p) = b))) → (40 - b : Int).toNat < fuel → Kz X G P V [some (.ref (ad G 16 0)), some (.int (iI k)), some (.int (iI m)), some (.int (iI b))] 4 [] := by
    intro fuel
    induction fuel with
    | zero => intro m b hk0 hk1 hs hf_4; exact absurd hf_4 (Nat.not_lt_zero _)
    | succ fuel ih_4 =>
      intro m b hk0 hk1 hs hf_4
      refine z_iload_n E dX6_unlikeBlocks_4 3 rfl rfl ?_
      refine z_bipush E dX6_unlikeBlocks_5 rfl ?_
      refine z_icmp_ge E 33 dX6_unlikeBlocks_7 rfl (by omega) (by omega) (fun c_2 => ?_) (fun c_2 => ?_)
      · skip
        refine z_iload_n E dX6_unlikeBlocks_33 2 rfl rfl ?_
        exact z_iret E dX6_unlikeBlocks_34 (⟨by rw [hs, show b = 40 by omega], rfl, rfl⟩)
      · skip
        refine z_iload_n E dX6_unlikeBlocks_10 2 rfl rfl ?_
        refine z_aload_n E dX6_unlikeBlocks_11 0 rfl rfl ?_
        refine z_iload_n E dX6_unlikeBlocks_12 1 rfl rfl ?_
        refine z_iload_n E dX6_unlikeBlocks_13 3 rfl rfl ?_
        refine z_callV E (ci := 6) (N := 16) (C := RX6) (T := TX6) (n := 2) (st := [.int (iI m)]) (rfl : vl 16 0 = true) rfl rfl [.int (iI k), .int (iI b)] (kX6_has l G P V k b hB (by omega) (by omega) hmL (by omega) (by omega) (by omega)) gX6_unlikeBlocks_X6_has rfl ⟨rfl, rfl⟩ (by decide +kernel) ⟨Nat.le_of_ble_eq_true rfl, Nat.le_of_ble_eq_true rfl⟩ rfl rfl (Nat.le_of_ble_eq_true rfl) rfl dX6_unlikeBlocks_14 (z_dtI ?_)
        refine z_ifeq_b E 24 dX6_unlikeBlocks_17 rfl (fun c_4 => ?_) (fun c_4 => ?_)
        · skip
          refine z_iconst E dX6_unlikeBlocks_24 ?_
          refine z_iadd E dX6_unlikeBlocks_25 ?_
          refine z_istore_n E dX6_unlikeBlocks_26 2 rfl (L' := [some (.ref (ad G 16 0)), some (.int (iI k)), some (.int (iI (m + 0))), some (.int (iI b))]) (Nat.le_of_ble_eq_true rfl) rfl ?_
          refine z_iinc E b dX6_unlikeBlocks_27 (L' := [some (.ref (ad G 16 0)), some (.int (iI k)), some (.int (iI (m + 0))), some (.int (iI (b + 1)))]) (Nat.le_of_ble_eq_true rfl) rfl rfl ?_
          refine z_goto E 4 dX6_unlikeBlocks_30 rfl ?_
          exact ih_4 (m + 0) (b + 1) (by omega) (by omega) (by first | exact smb_t hs (by omega) (by first | assumption | omega) | exact smb_f hs (by omega) (by first | assumption | omega) | exact smb_f0 hs (by omega) (by first | assumption | omega)) (by omega)
        · skip
          refine z_iconst E dX6_unlikeBlocks_20 ?_
          refine z_goto E 25 dX6_unlikeBlocks_21 rfl ?_
          refine z_iadd E dX6_unlikeBlocks_25 ?_
          refine z_istore_n E dX6_unlikeBlocks_26 2 rfl (L' := [some (.ref (ad G 16 0)), some (.int (iI k)), some (.int (iI (m + 1))), some (.int (iI b))]) (Nat.le_of_ble_eq_true rfl) rfl ?_
          refine z_iinc E b dX6_unlikeBlocks_27 (L' := [some (.ref (ad G 16 0)), some (.int (iI k)), some (.int (iI (m + 1))), some (.int (iI (b + 1)))]) (Nat.le_of_ble_eq_true rfl) rfl rfl ?_
          refine z_goto E 4 dX6_unlikeBlocks_30 rfl ?_
          exact ih_4 (m + 1) (b + 1) (by omega) (by omega) (by first | exact smb_t hs (by omega) (by first | assumption | omega) | exact smb_f hs (by omega) (by first | assumption | omega) | exact smb_f0 hs (by omega) (by first | assumption | omega)) (by omega)
  exact lp_4_1 ((40 - 0 : Int).toNat + 1) 0 0 (by omega) (by omega) (sm_0 (by omega)).symm (Nat.lt_succ_self _)

set_option maxHeartbeats 4000000 in
set_option maxRecDepth 100000 in
theorem kX6_standing (l : Launch) (G : Gl) (P : Nat → Nat) (V : Vt) (x : Int) (hB : BV V) (a1 : inR x) : Met l yX6_standing wsX6_standing ({ frames := 0, cells := 0, slots := 0, locals := 0 }) (va_Pc [.ref (ad G 16 0), .int (iI x)] (Sg G P V)) (Qk G mkI (dt (bits 4 (fun b => mh (V 17 0) b = x)) P V)) 0 0 (mem G) := by
  refine z_met (cc := cX6_standing) (nL := 4) (ret := (some .int)) (own := RX6) (by decide +kernel) rfl rfl (Nat.le_of_ble_eq_true rfl) (zz_cat rfl) (L := [some (.ref (ad G 16 0)), some (.int (iI x)), none, none]) rfl ?_
  intro X E
  have iX6 : ∀ x ∈ wsX60, x ∈ wsX6_standing := by decide +kernel
  have f0 : Cond.fieldLink RX6 7 "SharedStatesModel" "s" "[I" ∈ wsX6_standing := by decide +kernel
  refine z_iconst E dX6_standing_0 ?_
  refine z_istore_n E dX6_standing_1 2 rfl (L' := [some (.ref (ad G 16 0)), some (.int (iI x)), some (.int (iI 0)), none]) (Nat.le_of_ble_eq_true rfl) rfl ?_
  refine z_iconst E dX6_standing_2 ?_
  refine z_istore_n E dX6_standing_3 3 rfl (L' := [some (.ref (ad G 16 0)), some (.int (iI x)), some (.int (iI 0)), some (.int (iI 0))]) (Nat.le_of_ble_eq_true rfl) rfl ?_
  have lp_4_1 : ∀ (fuel : Nat) (m : Int) (k : Int), (0 ≤ k) → (k ≤ 4) → (m = bits k (fun b => mh (V 17 0) b = x)) → (4 - k : Int).toNat < fuel → Kz X G P V [some (.ref (ad G 16 0)), some (.int (iI x)), some (.int (iI m)), some (.int (iI k))] 4 [] := by
    intro fuel
    induction fuel with
    | zero => intro m k hk0 hk1 hs hf_4; exact absurd hf_4 (Nat.not_lt_zero _)
    | succ fuel ih_4 =>
      intro m k hk0 hk1 hs hf_4
      have hsb := bits_bd (fun b => mh (V 17 0) b = x) hk0
      rw [← hs] at hsb
      refine z_iload_n E dX6_standing_4 3 rfl rfl ?_
      refine z_iconst E dX6_standing_5 ?_
      refine z_icmp_ge E 38 dX6_standing_6 rfl (by omega) (by omega) (fun c_2 => ?_) (fun c_2 => ?_)
      · skip
        refine z_iload_n E dX6_standing_38 2 rfl rfl ?_
        exact z_iret E dX6_standing_39 (⟨by rw [hs, show k = 4 by omega], rfl, rfl⟩)
      · skip
        refine z_iload_n E dX6_standing_9 2 rfl rfl ?_
        refine z_aload_n E dX6_standing_10 0 rfl rfl ?_
        refine z_get E (ci := 6) (N := 16) (C := RX6) (T := TX6) (rfl : vl 16 0 = true) rfl rfl iX6 0 (by decide) rfl f0 rfl dX6_standing_11 ?_
        refine z_bipush E dX6_standing_14 rfl ?_
        refine z_iload_n E dX6_standing_16 3 rfl rfl ?_
        refine z_iadd E dX6_standing_17 ?_
        refine z_iald E (rfl : vl 17 0 = true) 498 rfl (by omega) (by omega) (by omega) dX6_standing_18 ?_
        have hr_3 := hB.s (6 + k) (by omega)
        refine z_iload_n E dX6_standing_19 1 rfl rfl ?_
        refine z_icmp_ne E 29 dX6_standing_20 rfl (by omega) (by omega) (fun c_4 => ?_) (fun c_4 => ?_)
        · skip
          refine z_iconst E dX6_standing_29 ?_
          refine z_ior0 E dX6_standing_30 ?_
          refine z_istore_n E dX6_standing_31 2 rfl (L' := [some (.ref (ad G 16 0)), some (.int (iI x)), some (.int (iI m)), some (.int (iI k))]) (Nat.le_of_ble_eq_true rfl) rfl ?_
          refine z_iinc E k dX6_standing_32 (L' := [some (.ref (ad G 16 0)), some (.int (iI x)), some (.int (iI m)), some (.int (iI (k + 1)))]) (Nat.le_of_ble_eq_true rfl) rfl rfl ?_
          refine z_goto E 4 dX6_standing_35 rfl ?_
          exact ih_4 m (k + 1) (by omega) (by omega) (by first | exact bits_t hs (by omega) (by assumption) | exact bits_f hs (by omega) (by assumption)) (by omega)
        · skip
          refine z_iconst E dX6_standing_23 ?_
          refine z_iload_n E dX6_standing_24 3 rfl rfl ?_
          refine z_ishl E dX6_standing_25 (by omega) (by omega) ?_
          refine z_goto E 30 dX6_standing_26 rfl ?_
          refine z_iorS E dX6_standing_30 (by omega) (hsb.1) (hsb.2) ?_
          refine z_istore_n E dX6_standing_31 2 rfl (L' := [some (.ref (ad G 16 0)), some (.int (iI x)), some (.int (iI (m + (2 ^ k.toNat)))), some (.int (iI k))]) (Nat.le_of_ble_eq_true rfl) rfl ?_
          refine z_iinc E k dX6_standing_32 (L' := [some (.ref (ad G 16 0)), some (.int (iI x)), some (.int (iI (m + (2 ^ k.toNat)))), some (.int (iI (k + 1)))]) (Nat.le_of_ble_eq_true rfl) rfl rfl ?_
          refine z_goto E 4 dX6_standing_35 rfl ?_
          exact ih_4 (m + (2 ^ k.toNat)) (k + 1) (by omega) (by omega) (by first | exact bits_t hs (by omega) (by assumption) | exact bits_f hs (by omega) (by assumption)) (by omega)
  exact lp_4_1 ((4 - 0 : Int).toNat + 1) 0 0 (by omega) (by omega) bits_0.symm (Nat.lt_succ_self _)

set_option maxHeartbeats 4000000 in
set_option maxRecDepth 100000 in
theorem kX6_number (l : Launch) (G : Gl) (P : Nat → Nat) (V : Vt) (index : Int) (hB : BV V) (hm0 : 0 ≤ V 17 0 0) (hm1 : V 17 0 0 ≤ 16) (a1 : inR index) : Met l yX6_number wsX6_number ({ frames := 1, cells := 0, slots := 0, locals := 22 }) (va_Pc [.ref (ad G 16 0), .int (iI index)] (Sg G P V)) (Qk G mkI (dt (if index < 0 then -1000001 else if V 17 0 0 ≤ index then -1000004 else mo (V 17 0) index 0) P V)) 0 0 (mem G) := by
  refine z_met (cc := cX6_number) (nL := 2) (ret := (some .int)) (own := RX6) (by decide +kernel) rfl rfl (Nat.le_of_ble_eq_true rfl) (zz_cat rfl) (L := [some (.ref (ad G 16 0)), some (.int (iI index))]) rfl ?_
  intro X E
  have iX6 : ∀ x ∈ wsX60, x ∈ wsX6_number := by decide +kernel
  have f0 : Cond.fieldLink RX6 7 "SharedStatesModel" "s" "[I" ∈ wsX6_number := by decide +kernel
  have f1 : Cond.constant RX6 43 (-1000004) ∈ wsX6_number := by decide +kernel
  have f2 : Cond.constant RX6 111 (-1000001) ∈ wsX6_number := by decide +kernel
  refine z_iload_n E dX6_number_0 1 rfl rfl ?_
  refine z_if_ge E 9 dX6_number_1 rfl (by omega) (fun c_1 => ?_) (fun c_1 => ?_)
  · skip
    refine z_iload_n E dX6_number_9 1 rfl rfl ?_
    refine z_aload_n E dX6_number_10 0 rfl rfl ?_
    refine z_get E (ci := 6) (N := 16) (C := RX6) (T := TX6) (rfl : vl 16 0 = true) rfl rfl iX6 0 (by decide) rfl f0 rfl dX6_number_11 ?_
    refine z_iconst E dX6_number_14 ?_
    refine z_iald E (rfl : vl 17 0 = true) 498 rfl (by omega) (by omega) (by omega) dX6_number_15 ?_
    have hr_2 := hB.s 0 (by omega)
    refine z_icmp_lt E 24 dX6_number_16 rfl (by omega) (by omega) (fun c_3 => ?_) (fun c_3 => ?_)
    · skip
      refine z_aload_n E dX6_number_24 0 rfl rfl ?_
      refine z_iload_n E dX6_number_25 1 rfl rfl ?_
      refine z_iconst E dX6_number_26 ?_
      refine z_callV E (ci := 6) (N := 16) (C := RX6) (T := TX6) (n := 2) (st := []) (rfl : vl 16 0 = true) rfl rfl [.int (iI index), .int (iI 0)] (kX6_of l G P V index 0 hB (by omega) (by omega) (by omega) (by omega)) gX6_number_X6_of rfl ⟨rfl, rfl⟩ (by decide +kernel) ⟨Nat.le_of_ble_eq_true rfl, Nat.le_of_ble_eq_true rfl⟩ rfl rfl (Nat.le_of_ble_eq_true rfl) rfl dX6_number_27 (z_dtI ?_)
      have h_4a := mo_R hB index 0 (by omega) (by omega)
      exact z_iret E dX6_number_30 (⟨by first | (rw [if_pos (by omega)]; done) | (rw [if_neg (by omega), if_pos (by omega)]; done) | (rw [if_neg (by omega), if_neg (by omega)]; done), rfl, rfl⟩)
    · skip
      refine z_ldc E (-1000004) f1 rfl dX6_number_19 ?_
      refine z_goto E 30 dX6_number_21 rfl ?_
      exact z_iret E dX6_number_30 (⟨by first | (rw [if_pos (by omega)]; done) | (rw [if_neg (by omega), if_pos (by omega)]; done) | (rw [if_neg (by omega), if_neg (by omega)]; done), rfl, rfl⟩)
  · skip
    refine z_ldc E (-1000001) f2 rfl dX6_number_4 ?_
    refine z_goto E 30 dX6_number_6 rfl ?_
    exact z_iret E dX6_number_30 (⟨by first | (rw [if_pos (by omega)]; done) | (rw [if_neg (by omega), if_pos (by omega)]; done) | (rw [if_neg (by omega), if_neg (by omega)]; done), rfl, rfl⟩)

set_option maxHeartbeats 4000000 in
set_option maxRecDepth 100000 in
theorem kX6_read (l : Launch) (G : Gl) (P : Nat → Nat) (V : Vt) (x : Int) (c : Int) (hB : BV V) (hm0 : 0 ≤ V 17 0 0) (hm1 : V 17 0 0 ≤ 16) (hmL : ∀ k p, 0 ≤ k → k < 16 → 0 ≤ p → p < 6 → 0 ≤ mo (V 17 0) k (2 + p) ∧ mo (V 17 0) k (2 + p) < 40) (a1 : inR x) (a2 : inR c) : Met l yX6_read wsX6_read ({ frames := 3, cells := 0, slots := 0, locals := 65 }) (va_Pc [.ref (ad G 16 0), .int (iI x), .int (iI c)] (Sg G P V)) (Qk G mkI (dt (if 0 ≤ mS (V 17 0) x ∧ 0 ≤ c ∧ c ≤ 47 then mc (V 17 0) (mS (V 17 0) x) c else -1000001) P V)) 0 0 (mem G) := by
  refine z_met (cc := cX6_read) (nL := 3) (ret := (some .int)) (own := RX6) (by decide +kernel) rfl rfl (Nat.le_of_ble_eq_true rfl) (zz_cat rfl) (L := [some (.ref (ad G 16 0)), some (.int (iI x)), some (.int (iI c))]) rfl ?_
  intro X E
  have f0 : Cond.constant RX6 111 (-1000001) ∈ wsX6_read := by decide +kernel
  refine z_aload_n E dX6_read_0 0 rfl rfl ?_
  refine z_iload_n E dX6_read_1 1 rfl rfl ?_
  refine z_callV E (ci := 6) (N := 16) (C := RX6) (T := TX6) (n := 1) (st := []) (rfl : vl 16 0 = true) rfl rfl [.int (iI x)] (kX6_isState l G P V x hB (by omega) (by omega) (by omega)) gX6_read_X6_isState rfl ⟨rfl, rfl⟩ (by decide +kernel) ⟨Nat.le_of_ble_eq_true rfl, Nat.le_of_ble_eq_true rfl⟩ rfl rfl (Nat.le_of_ble_eq_true rfl) rfl dX6_read_2 (z_dtI ?_)
  have h_1a := mS_c (V 17 0) x
  refine z_ifeq_b E 31 dX6_read_5 rfl (fun c_2 => ?_) (fun c_2 => ?_)
  · skip
    refine z_ldc E (-1000001) f0 rfl dX6_read_31 ?_
    exact z_iret E dX6_read_33 (⟨by first | (rw [if_pos (by omega)]; done) | (rw [if_neg (by omega)]; done), rfl, rfl⟩)
  · skip
    refine z_iload_n E dX6_read_8 2 rfl rfl ?_
    refine z_iconst E dX6_read_9 ?_
    refine z_bipush E dX6_read_10 rfl ?_
    refine z_callS E (n := 3) (st := []) [.int (iI c), .int (iI 0), .int (iI 47)] (kX6_in l G P V c 0 47 (by omega) (by omega) (by omega)) gX6_read_X6_in rfl ⟨rfl, rfl⟩ (by decide +kernel) ⟨Nat.le_of_ble_eq_true rfl, Nat.le_of_ble_eq_true rfl⟩ rfl rfl (Nat.le_of_ble_eq_true rfl) rfl dX6_read_12 (z_dtI ?_)
    refine z_ifeq_b E 31 dX6_read_15 rfl (fun c_4 => ?_) (fun c_4 => ?_)
    · skip
      refine z_ldc E (-1000001) f0 rfl dX6_read_31 ?_
      exact z_iret E dX6_read_33 (⟨by first | (rw [if_pos (by omega)]; done) | (rw [if_neg (by omega)]; done), rfl, rfl⟩)
    · skip
      refine z_aload_n E dX6_read_18 0 rfl rfl ?_
      refine z_aload_n E dX6_read_19 0 rfl rfl ?_
      refine z_iload_n E dX6_read_20 1 rfl rfl ?_
      refine z_callV E (ci := 6) (N := 16) (C := RX6) (T := TX6) (n := 1) (st := [.ref (ad G 16 0)]) (rfl : vl 16 0 = true) rfl rfl [.int (iI x)] (kX6_slot l G P V x hB (by omega) (by omega) (by omega)) gX6_read_X6_slot rfl ⟨rfl, rfl⟩ (by decide +kernel) ⟨Nat.le_of_ble_eq_true rfl, Nat.le_of_ble_eq_true rfl⟩ rfl rfl (Nat.le_of_ble_eq_true rfl) rfl dX6_read_21 (z_dtI ?_)
      have h_5a := mS_c (V 17 0) x
      rw [show fO (mS (V 17 0) x) = mS (V 17 0) x by omega]
      refine z_iload_n E dX6_read_24 2 rfl rfl ?_
      refine z_callV E (ci := 6) (N := 16) (C := RX6) (T := TX6) (n := 2) (st := []) (rfl : vl 16 0 = true) rfl rfl [.int (iI (mS (V 17 0) x)), .int (iI c)] (kX6_cellOf l G P V (mS (V 17 0) x) c hB (by omega) (by omega) hmL (by omega) (by omega) (by omega) (by omega)) gX6_read_X6_cellOf rfl ⟨rfl, rfl⟩ (by decide +kernel) ⟨Nat.le_of_ble_eq_true rfl, Nat.le_of_ble_eq_true rfl⟩ rfl rfl (Nat.le_of_ble_eq_true rfl) rfl dX6_read_25 (z_dtI ?_)
      have h_6a := mc_R hB hmL (mS (V 17 0) x) c (by omega) (by omega) (by omega) (by omega)
      refine z_goto E 33 dX6_read_28 rfl ?_
      exact z_iret E dX6_read_33 (⟨by first | (rw [if_pos (by omega)]; done) | (rw [if_neg (by omega)]; done), rfl, rfl⟩)

set_option maxHeartbeats 4000000 in
set_option maxRecDepth 100000 in
theorem kX6_blockAt (l : Launch) (G : Gl) (P : Nat → Nat) (V : Vt) (x : Int) (pl : Int) (hB : BV V) (hm0 : 0 ≤ V 17 0 0) (hm1 : V 17 0 0 ≤ 16) (hmL : ∀ k p, 0 ≤ k → k < 16 → 0 ≤ p → p < 6 → 0 ≤ mo (V 17 0) k (2 + p) ∧ mo (V 17 0) k (2 + p) < 40) (a1 : inR x) (a2 : inR pl) : Met l yX6_blockAt wsX6_blockAt ({ frames := 3, cells := 0, slots := 0, locals := 65 }) (va_Pc [.ref (ad G 16 0), .int (iI x), .int (iI pl)] (Sg G P V)) (Qk G mkI (dt (if 0 ≤ mS (V 17 0) x ∧ 0 ≤ pl ∧ pl ≤ 5 then mo (V 17 0) (mS (V 17 0) x) (2 + pl) else -1000001) P V)) 0 0 (mem G) := by
  refine z_met (cc := cX6_blockAt) (nL := 3) (ret := (some .int)) (own := RX6) (by decide +kernel) rfl rfl (Nat.le_of_ble_eq_true rfl) (zz_cat rfl) (L := [some (.ref (ad G 16 0)), some (.int (iI x)), some (.int (iI pl))]) rfl ?_
  intro X E
  have f0 : Cond.constant RX6 111 (-1000001) ∈ wsX6_blockAt := by decide +kernel
  refine z_aload_n E dX6_blockAt_0 0 rfl rfl ?_
  refine z_iload_n E dX6_blockAt_1 1 rfl rfl ?_
  refine z_callV E (ci := 6) (N := 16) (C := RX6) (T := TX6) (n := 1) (st := []) (rfl : vl 16 0 = true) rfl rfl [.int (iI x)] (kX6_isState l G P V x hB (by omega) (by omega) (by omega)) gX6_blockAt_X6_isState rfl ⟨rfl, rfl⟩ (by decide +kernel) ⟨Nat.le_of_ble_eq_true rfl, Nat.le_of_ble_eq_true rfl⟩ rfl rfl (Nat.le_of_ble_eq_true rfl) rfl dX6_blockAt_2 (z_dtI ?_)
  have h_1a := mS_c (V 17 0) x
  refine z_ifeq_b E 32 dX6_blockAt_5 rfl (fun c_2 => ?_) (fun c_2 => ?_)
  · skip
    refine z_ldc E (-1000001) f0 rfl dX6_blockAt_32 ?_
    exact z_iret E dX6_blockAt_34 (⟨by first | (rw [if_pos (by omega)]; done) | (rw [if_neg (by omega)]; done), rfl, rfl⟩)
  · skip
    refine z_iload_n E dX6_blockAt_8 2 rfl rfl ?_
    refine z_iconst E dX6_blockAt_9 ?_
    refine z_iconst E dX6_blockAt_10 ?_
    refine z_callS E (n := 3) (st := []) [.int (iI pl), .int (iI 0), .int (iI 5)] (kX6_in l G P V pl 0 5 (by omega) (by omega) (by omega)) gX6_blockAt_X6_in rfl ⟨rfl, rfl⟩ (by decide +kernel) ⟨Nat.le_of_ble_eq_true rfl, Nat.le_of_ble_eq_true rfl⟩ rfl rfl (Nat.le_of_ble_eq_true rfl) rfl dX6_blockAt_11 (z_dtI ?_)
    refine z_ifeq_b E 32 dX6_blockAt_14 rfl (fun c_4 => ?_) (fun c_4 => ?_)
    · skip
      refine z_ldc E (-1000001) f0 rfl dX6_blockAt_32 ?_
      exact z_iret E dX6_blockAt_34 (⟨by first | (rw [if_pos (by omega)]; done) | (rw [if_neg (by omega)]; done), rfl, rfl⟩)
    · skip
      refine z_aload_n E dX6_blockAt_17 0 rfl rfl ?_
      refine z_aload_n E dX6_blockAt_18 0 rfl rfl ?_
      refine z_iload_n E dX6_blockAt_19 1 rfl rfl ?_
      refine z_callV E (ci := 6) (N := 16) (C := RX6) (T := TX6) (n := 1) (st := [.ref (ad G 16 0)]) (rfl : vl 16 0 = true) rfl rfl [.int (iI x)] (kX6_slot l G P V x hB (by omega) (by omega) (by omega)) gX6_blockAt_X6_slot rfl ⟨rfl, rfl⟩ (by decide +kernel) ⟨Nat.le_of_ble_eq_true rfl, Nat.le_of_ble_eq_true rfl⟩ rfl rfl (Nat.le_of_ble_eq_true rfl) rfl dX6_blockAt_20 (z_dtI ?_)
      have h_5a := mS_c (V 17 0) x
      rw [show fO (mS (V 17 0) x) = mS (V 17 0) x by omega]
      refine z_iconst E dX6_blockAt_23 ?_
      refine z_iload_n E dX6_blockAt_24 2 rfl rfl ?_
      refine z_iadd E dX6_blockAt_25 ?_
      refine z_callV E (ci := 6) (N := 16) (C := RX6) (T := TX6) (n := 2) (st := []) (rfl : vl 16 0 = true) rfl rfl [.int (iI (mS (V 17 0) x)), .int (iI (2 + pl))] (kX6_of l G P V (mS (V 17 0) x) (2 + pl) hB (by omega) (by omega) (by omega) (by omega)) gX6_blockAt_X6_of rfl ⟨rfl, rfl⟩ (by decide +kernel) ⟨Nat.le_of_ble_eq_true rfl, Nat.le_of_ble_eq_true rfl⟩ rfl rfl (Nat.le_of_ble_eq_true rfl) rfl dX6_blockAt_26 (z_dtI ?_)
      have h_6a := mo_R hB (mS (V 17 0) x) (2 + pl) (by omega) (by omega)
      refine z_goto E 34 dX6_blockAt_29 rfl ?_
      exact z_iret E dX6_blockAt_34 (⟨by first | (rw [if_pos (by omega)]; done) | (rw [if_neg (by omega)]; done), rfl, rfl⟩)

set_option maxHeartbeats 4000000 in
set_option maxRecDepth 100000 in
theorem kX6_stateOf (l : Launch) (G : Gl) (P : Nat → Nat) (V : Vt) (x : Int) (what : Int) (hB : BV V) (hm0 : 0 ≤ V 17 0 0) (hm1 : V 17 0 0 ≤ 16) (hmL : ∀ k p, 0 ≤ k → k < 16 → 0 ≤ p → p < 6 → 0 ≤ mo (V 17 0) k (2 + p) ∧ mo (V 17 0) k (2 + p) < 40) (hI : MI (V 17 0)) (a1 : inR x) (a2 : inR what) : Met l yX6_stateOf wsX6_stateOf ({ frames := 4, cells := 0, slots := 0, locals := 92 }) (va_Pc [.ref (ad G 16 0), .int (iI x), .int (iI what)] (Sg G P V)) (Qk G mkI (dt (if mS (V 17 0) x < 0 ∨ what < 0 ∨ 7 < what then -1000001 else if what = 0 then (if mS (V 17 0) x = 0 then -1000004 else mo (V 17 0) (mS (V 17 0) x) 1) else if what = 1 then sm (V 17 0 0) (fun k => b2i (mo (V 17 0) k 1 = x)) else if what = 2 then itS (gM (V 17 0)) 16 x else if what = 3 then sm 48 (fun c => mc (V 17 0) (mS (V 17 0) x) c) else if what = 4 then (if mS (V 17 0) x = 0 then -1000004 else sm 6 (fun p => b2i (¬ mo (V 17 0) (mS (V 17 0) x) (2 + p) = mo (V 17 0) (mS (V 17 0) (mo (V 17 0) (mS (V 17 0) x) 1)) (2 + p)))) else if what = 5 then sm 6 (fun p => b2i (sm (V 17 0 0) (fun j => b2i (∃ q, 0 ≤ q ∧ q < 6 ∧ mo (V 17 0) j (2 + q) = mo (V 17 0) (mS (V 17 0) x) (2 + p))) = 1)) else if what = 6 then sm 40 (fun b => b2i (∃ p, 0 ≤ p ∧ p < 6 ∧ mo (V 17 0) (mS (V 17 0) x) (2 + p) = b)) else bits 4 (fun b => mh (V 17 0) b = x)) P V)) 0 0 (mem G) := by
  refine z_met (cc := cX6_stateOf) (nL := 4) (ret := (some .int)) (own := RX6) (by decide +kernel) rfl rfl (Nat.le_of_ble_eq_true rfl) (zz_cat rfl) (L := [some (.ref (ad G 16 0)), some (.int (iI x)), some (.int (iI what)), none]) rfl ?_
  intro X E
  have f0 : Cond.constant RX6 111 (-1000001) ∈ wsX6_stateOf := by decide +kernel
  have f1 : Cond.constant RX6 43 (-1000004) ∈ wsX6_stateOf := by decide +kernel
  refine z_aload_n E dX6_stateOf_0 0 rfl rfl ?_
  refine z_iload_n E dX6_stateOf_1 1 rfl rfl ?_
  refine z_callV E (ci := 6) (N := 16) (C := RX6) (T := TX6) (n := 1) (st := []) (rfl : vl 16 0 = true) rfl rfl [.int (iI x)] (kX6_isState l G P V x hB (by omega) (by omega) (by omega)) gX6_stateOf_X6_isState rfl ⟨rfl, rfl⟩ (by decide +kernel) ⟨Nat.le_of_ble_eq_true rfl, Nat.le_of_ble_eq_true rfl⟩ rfl rfl (Nat.le_of_ble_eq_true rfl) rfl dX6_stateOf_2 (z_dtI ?_)
  have h_1a := mS_c (V 17 0) x
  refine z_ifeq_b E 18 dX6_stateOf_5 rfl (fun c_2 => ?_) (fun c_2 => ?_)
  · skip
    refine z_ldc E (-1000001) f0 rfl dX6_stateOf_18 ?_
    exact z_iret E dX6_stateOf_20 (⟨by rw [if_pos (by omega)], rfl, rfl⟩)
  · skip
    refine z_iload_n E dX6_stateOf_8 2 rfl rfl ?_
    refine z_iconst E dX6_stateOf_9 ?_
    refine z_bipush E dX6_stateOf_10 rfl ?_
    refine z_callS E (n := 3) (st := []) [.int (iI what), .int (iI 0), .int (iI 7)] (kX6_in l G P V what 0 7 (by omega) (by omega) (by omega)) gX6_stateOf_X6_in rfl ⟨rfl, rfl⟩ (by decide +kernel) ⟨Nat.le_of_ble_eq_true rfl, Nat.le_of_ble_eq_true rfl⟩ rfl rfl (Nat.le_of_ble_eq_true rfl) rfl dX6_stateOf_12 (z_dtI ?_)
    refine z_ifne_b E 21 dX6_stateOf_15 rfl (fun c_4 => ?_) (fun c_4 => ?_)
    · skip
      refine z_aload_n E dX6_stateOf_21 0 rfl rfl ?_
      refine z_iload_n E dX6_stateOf_22 1 rfl rfl ?_
      refine z_callV E (ci := 6) (N := 16) (C := RX6) (T := TX6) (n := 1) (st := []) (rfl : vl 16 0 = true) rfl rfl [.int (iI x)] (kX6_slot l G P V x hB (by omega) (by omega) (by omega)) gX6_stateOf_X6_slot rfl ⟨rfl, rfl⟩ (by decide +kernel) ⟨Nat.le_of_ble_eq_true rfl, Nat.le_of_ble_eq_true rfl⟩ rfl rfl (Nat.le_of_ble_eq_true rfl) rfl dX6_stateOf_23 (z_dtI ?_)
      have h_5a := mS_c (V 17 0) x
      rw [show fO (mS (V 17 0) x) = mS (V 17 0) x by omega]
      have hmm := hI.nn (show 0 ≤ mS (V 17 0) x by omega)
      refine z_istore_n E dX6_stateOf_26 3 rfl (L' := [some (.ref (ad G 16 0)), some (.int (iI x)), some (.int (iI what)), some (.int (iI (mS (V 17 0) x)))]) (Nat.le_of_ble_eq_true rfl) rfl ?_
      refine z_iload_n E dX6_stateOf_27 2 rfl rfl ?_
      by_cases q_6_0 : what = 0
      · skip
        refine z_tsI E 0 72 q_6_0 (by omega) dX6_stateOf_28 (by decide) (by decide) rfl rfl ?_
        refine z_iload_n E dX6_stateOf_72 3 rfl rfl ?_
        refine z_if_ne E 81 dX6_stateOf_73 rfl (by omega) (fun c_7 => ?_) (fun c_7 => ?_)
        · skip
          refine z_aload_n E dX6_stateOf_81 0 rfl rfl ?_
          refine z_iload_n E dX6_stateOf_82 3 rfl rfl ?_
          refine z_iconst E dX6_stateOf_83 ?_
          refine z_callV E (ci := 6) (N := 16) (C := RX6) (T := TX6) (n := 2) (st := []) (rfl : vl 16 0 = true) rfl rfl [.int (iI (mS (V 17 0) x)), .int (iI 1)] (kX6_of l G P V (mS (V 17 0) x) 1 hB (by omega) (by omega) (by omega) (by omega)) gX6_stateOf_X6_of rfl ⟨rfl, rfl⟩ (by decide +kernel) ⟨Nat.le_of_ble_eq_true rfl, Nat.le_of_ble_eq_true rfl⟩ rfl rfl (Nat.le_of_ble_eq_true rfl) rfl dX6_stateOf_84 (z_dtI ?_)
          have h_8a := mo_R hB (mS (V 17 0) x) 1 (by omega) (by omega)
          exact z_iret E dX6_stateOf_87 (⟨by first | (rw [if_neg (by omega), if_pos (by omega), if_pos (by omega)]; done) | (rw [if_neg (by omega), if_pos (by omega), if_neg (by omega)]; done), rfl, rfl⟩)
        · skip
          refine z_ldc E (-1000004) f1 rfl dX6_stateOf_76 ?_
          refine z_goto E 87 dX6_stateOf_78 rfl ?_
          exact z_iret E dX6_stateOf_87 (⟨by first | (rw [if_neg (by omega), if_pos (by omega), if_pos (by omega)]; done) | (rw [if_neg (by omega), if_pos (by omega), if_neg (by omega)]; done), rfl, rfl⟩)
      by_cases q_6_1 : what = 1
      · skip
        refine z_tsI E 1 88 q_6_1 (by omega) dX6_stateOf_28 (by decide) (by decide) rfl rfl ?_
        refine z_aload_n E dX6_stateOf_88 0 rfl rfl ?_
        refine z_iload_n E dX6_stateOf_89 1 rfl rfl ?_
        refine z_callV E (ci := 6) (N := 16) (C := RX6) (T := TX6) (n := 1) (st := []) (rfl : vl 16 0 = true) rfl rfl [.int (iI x)] (kX6_children l G P V x hB (by omega) (by omega) (by omega)) gX6_stateOf_X6_children rfl ⟨rfl, rfl⟩ (by decide +kernel) ⟨Nat.le_of_ble_eq_true rfl, Nat.le_of_ble_eq_true rfl⟩ rfl rfl (Nat.le_of_ble_eq_true rfl) rfl dX6_stateOf_90 (z_dtI ?_)
        exact z_iret E dX6_stateOf_93 (⟨by rw [if_neg (by omega), if_neg (by omega), if_pos (by omega)], rfl, rfl⟩)
      by_cases q_6_2 : what = 2
      · skip
        refine z_tsI E 2 94 q_6_2 (by omega) dX6_stateOf_28 (by decide) (by decide) rfl rfl ?_
        refine z_aload_n E dX6_stateOf_94 0 rfl rfl ?_
        refine z_iload_n E dX6_stateOf_95 1 rfl rfl ?_
        refine z_callV E (ci := 6) (N := 16) (C := RX6) (T := TX6) (n := 1) (st := []) (rfl : vl 16 0 = true) rfl rfl [.int (iI x)] (kX6_steps l G P V x hB (by omega) (by omega) hmL hI (by omega) (by omega)) gX6_stateOf_X6_steps rfl ⟨rfl, rfl⟩ (by decide +kernel) ⟨Nat.le_of_ble_eq_true rfl, Nat.le_of_ble_eq_true rfl⟩ rfl rfl (Nat.le_of_ble_eq_true rfl) rfl dX6_stateOf_96 (z_dtI ?_)
        exact z_iret E dX6_stateOf_99 (⟨by rw [if_neg (by omega), if_neg (by omega), if_neg (by omega), if_pos (by omega)], rfl, rfl⟩)
      by_cases q_6_3 : what = 3
      · skip
        refine z_tsI E 3 100 q_6_3 (by omega) dX6_stateOf_28 (by decide) (by decide) rfl rfl ?_
        refine z_aload_n E dX6_stateOf_100 0 rfl rfl ?_
        refine z_iload_n E dX6_stateOf_101 3 rfl rfl ?_
        refine z_callV E (ci := 6) (N := 16) (C := RX6) (T := TX6) (n := 1) (st := []) (rfl : vl 16 0 = true) rfl rfl [.int (iI (mS (V 17 0) x))] (kX6_sum l G P V (mS (V 17 0) x) hB (by omega) (by omega) hmL (by omega) (by omega)) gX6_stateOf_X6_sum rfl ⟨rfl, rfl⟩ (by decide +kernel) ⟨Nat.le_of_ble_eq_true rfl, Nat.le_of_ble_eq_true rfl⟩ rfl rfl (Nat.le_of_ble_eq_true rfl) rfl dX6_stateOf_102 (z_dtI ?_)
        exact z_iret E dX6_stateOf_105 (⟨by rw [if_neg (by omega), if_neg (by omega), if_neg (by omega), if_neg (by omega), if_pos (by omega)], rfl, rfl⟩)
      by_cases q_6_4 : what = 4
      · skip
        refine z_tsI E 4 106 q_6_4 (by omega) dX6_stateOf_28 (by decide) (by decide) rfl rfl ?_
        refine z_iload_n E dX6_stateOf_106 3 rfl rfl ?_
        refine z_if_ne E 115 dX6_stateOf_107 rfl (by omega) (fun c_12 => ?_) (fun c_12 => ?_)
        · skip
          refine z_aload_n E dX6_stateOf_115 0 rfl rfl ?_
          refine z_iload_n E dX6_stateOf_116 3 rfl rfl ?_
          refine z_aload_n E dX6_stateOf_117 0 rfl rfl ?_
          refine z_aload_n E dX6_stateOf_118 0 rfl rfl ?_
          refine z_iload_n E dX6_stateOf_119 3 rfl rfl ?_
          refine z_iconst E dX6_stateOf_120 ?_
          refine z_callV E (ci := 6) (N := 16) (C := RX6) (T := TX6) (n := 2) (st := [.ref (ad G 16 0), .int (iI (mS (V 17 0) x)), .ref (ad G 16 0)]) (rfl : vl 16 0 = true) rfl rfl [.int (iI (mS (V 17 0) x)), .int (iI 1)] (kX6_of l G P V (mS (V 17 0) x) 1 hB (by omega) (by omega) (by omega) (by omega)) gX6_stateOf_X6_of rfl ⟨rfl, rfl⟩ (by decide +kernel) ⟨Nat.le_of_ble_eq_true rfl, Nat.le_of_ble_eq_true rfl⟩ rfl rfl (Nat.le_of_ble_eq_true rfl) rfl dX6_stateOf_121 (z_dtI ?_)
          have h_13a := mo_R hB (mS (V 17 0) x) 1 (by omega) (by omega)
          have hpp := hI.2.2.2.1 (mS (V 17 0) x) (by omega) (by omega)
          refine z_callV E (ci := 6) (N := 16) (C := RX6) (T := TX6) (n := 1) (st := [.int (iI (mS (V 17 0) x)), .ref (ad G 16 0)]) (rfl : vl 16 0 = true) rfl rfl [.int (iI (mo (V 17 0) (mS (V 17 0) x) 1))] (kX6_slot l G P V (mo (V 17 0) (mS (V 17 0) x) 1) hB (by omega) (by omega) (by omega)) gX6_stateOf_X6_slot rfl ⟨rfl, rfl⟩ (by decide +kernel) ⟨Nat.le_of_ble_eq_true rfl, Nat.le_of_ble_eq_true rfl⟩ rfl rfl (Nat.le_of_ble_eq_true rfl) rfl dX6_stateOf_124 (z_dtI ?_)
          have h_14a := mS_c (V 17 0) (mo (V 17 0) (mS (V 17 0) x) 1)
          rw [show fO (mS (V 17 0) (mo (V 17 0) (mS (V 17 0) x) 1)) = mS (V 17 0) (mo (V 17 0) (mS (V 17 0) x) 1) by omega]
          refine z_callV E (ci := 6) (N := 16) (C := RX6) (T := TX6) (n := 2) (st := []) (rfl : vl 16 0 = true) rfl rfl [.int (iI (mS (V 17 0) x)), .int (iI (mS (V 17 0) (mo (V 17 0) (mS (V 17 0) x) 1)))] (kX6_otherPlaces l G P V (mS (V 17 0) x) (mS (V 17 0) (mo (V 17 0) (mS (V 17 0) x) 1)) hB (by omega) (by omega) hmL (by omega) (by omega) (by omega) (by omega)) gX6_stateOf_X6_otherPlaces rfl ⟨rfl, rfl⟩ (by decide +kernel) ⟨Nat.le_of_ble_eq_true rfl, Nat.le_of_ble_eq_true rfl⟩ rfl rfl (Nat.le_of_ble_eq_true rfl) rfl dX6_stateOf_127 (z_dtI ?_)
          exact z_iret E dX6_stateOf_130 (⟨by first | (rw [if_neg (by omega), if_neg (by omega), if_neg (by omega), if_neg (by omega), if_neg (by omega), if_pos (by omega), if_pos (by omega)]; done) | (rw [if_neg (by omega), if_neg (by omega), if_neg (by omega), if_neg (by omega), if_neg (by omega), if_pos (by omega), if_neg (by omega)]; done), rfl, rfl⟩)
        · skip
          refine z_ldc E (-1000004) f1 rfl dX6_stateOf_110 ?_
          refine z_goto E 130 dX6_stateOf_112 rfl ?_
          exact z_iret E dX6_stateOf_130 (⟨by first | (rw [if_neg (by omega), if_neg (by omega), if_neg (by omega), if_neg (by omega), if_neg (by omega), if_pos (by omega), if_pos (by omega)]; done) | (rw [if_neg (by omega), if_neg (by omega), if_neg (by omega), if_neg (by omega), if_neg (by omega), if_pos (by omega), if_neg (by omega)]; done), rfl, rfl⟩)
      by_cases q_6_5 : what = 5
      · skip
        refine z_tsI E 5 131 q_6_5 (by omega) dX6_stateOf_28 (by decide) (by decide) rfl rfl ?_
        refine z_aload_n E dX6_stateOf_131 0 rfl rfl ?_
        refine z_iload_n E dX6_stateOf_132 3 rfl rfl ?_
        refine z_callV E (ci := 6) (N := 16) (C := RX6) (T := TX6) (n := 1) (st := []) (rfl : vl 16 0 = true) rfl rfl [.int (iI (mS (V 17 0) x))] (kX6_ownPlaces l G P V (mS (V 17 0) x) hB (by omega) (by omega) hmL (by omega) (by omega)) gX6_stateOf_X6_ownPlaces rfl ⟨rfl, rfl⟩ (by decide +kernel) ⟨Nat.le_of_ble_eq_true rfl, Nat.le_of_ble_eq_true rfl⟩ rfl rfl (Nat.le_of_ble_eq_true rfl) rfl dX6_stateOf_133 (z_dtI ?_)
        exact z_iret E dX6_stateOf_136 (⟨by rw [if_neg (by omega), if_neg (by omega), if_neg (by omega), if_neg (by omega), if_neg (by omega), if_neg (by omega), if_pos (by omega)], rfl, rfl⟩)
      by_cases q_6_6 : what = 6
      · skip
        refine z_tsI E 6 137 q_6_6 (by omega) dX6_stateOf_28 (by decide) (by decide) rfl rfl ?_
        refine z_aload_n E dX6_stateOf_137 0 rfl rfl ?_
        refine z_iload_n E dX6_stateOf_138 3 rfl rfl ?_
        refine z_callV E (ci := 6) (N := 16) (C := RX6) (T := TX6) (n := 1) (st := []) (rfl : vl 16 0 = true) rfl rfl [.int (iI (mS (V 17 0) x))] (kX6_unlikeBlocks l G P V (mS (V 17 0) x) hB (by omega) (by omega) hmL (by omega) (by omega)) gX6_stateOf_X6_unlikeBlocks rfl ⟨rfl, rfl⟩ (by decide +kernel) ⟨Nat.le_of_ble_eq_true rfl, Nat.le_of_ble_eq_true rfl⟩ rfl rfl (Nat.le_of_ble_eq_true rfl) rfl dX6_stateOf_139 (z_dtI ?_)
        exact z_iret E dX6_stateOf_142 (⟨by rw [if_neg (by omega), if_neg (by omega), if_neg (by omega), if_neg (by omega), if_neg (by omega), if_neg (by omega), if_neg (by omega), if_pos (by omega)], rfl, rfl⟩)
      refine z_tsO E 143 (by omega) dX6_stateOf_28 (by omega) rfl ?_
      refine z_aload_n E dX6_stateOf_143 0 rfl rfl ?_
      refine z_iload_n E dX6_stateOf_144 1 rfl rfl ?_
      refine z_callV E (ci := 6) (N := 16) (C := RX6) (T := TX6) (n := 1) (st := []) (rfl : vl 16 0 = true) rfl rfl [.int (iI x)] (kX6_standing l G P V x hB (by omega)) gX6_stateOf_X6_standing rfl ⟨rfl, rfl⟩ (by decide +kernel) ⟨Nat.le_of_ble_eq_true rfl, Nat.le_of_ble_eq_true rfl⟩ rfl rfl (Nat.le_of_ble_eq_true rfl) rfl dX6_stateOf_145 (z_dtI ?_)
      exact z_iret E dX6_stateOf_148 (⟨by rw [if_neg (by omega), if_neg (by omega), if_neg (by omega), if_neg (by omega), if_neg (by omega), if_neg (by omega), if_neg (by omega), if_neg (by omega)], rfl, rfl⟩)
    · skip
      refine z_ldc E (-1000001) f0 rfl dX6_stateOf_18 ?_
      exact z_iret E dX6_stateOf_20 (⟨by rw [if_pos (by omega)], rfl, rfl⟩)

set_option maxHeartbeats 4000000 in
set_option maxRecDepth 100000 in
theorem kX6_inAll (l : Launch) (G : Gl) (P : Nat → Nat) (V : Vt) (b : Int) (set : Int) (hB : BV V) (a1 : 0 ≤ b) (a2 : b < 40) (a3 : inR set) : Met l yX6_inAll wsX6_inAll ({ frames := 1, cells := 0, slots := 0, locals := 22 }) (va_Pc [.ref (ad G 16 0), .int (iI b), .int (iI set)] (Sg G P V)) (Qk G mkI (dt (if set = 0 then sm 8 (fun c => mb (V 17 0) b c) else bits 8 (fun c => mb (V 17 0) b c ≠ 0)) P V)) 0 0 (mem G) := by
  refine z_met (cc := cX6_inAll) (nL := 5) (ret := (some .int)) (own := RX6) (by decide +kernel) rfl rfl (Nat.le_of_ble_eq_true rfl) (zz_cat rfl) (L := [some (.ref (ad G 16 0)), some (.int (iI b)), some (.int (iI set)), none, none]) rfl ?_
  intro X E
  refine z_iconst E dX6_inAll_0 ?_
  refine z_istore_n E dX6_inAll_1 3 rfl (L' := [some (.ref (ad G 16 0)), some (.int (iI b)), some (.int (iI set)), some (.int (iI 0)), none]) (Nat.le_of_ble_eq_true rfl) rfl ?_
  refine z_iconst E dX6_inAll_2 ?_
  refine z_istore E dX6_inAll_3 (L' := [some (.ref (ad G 16 0)), some (.int (iI b)), some (.int (iI set)), some (.int (iI 0)), some (.int (iI 0))]) (Nat.le_of_ble_eq_true rfl) rfl ?_
  have lp_5_1 : ∀ (fuel : Nat) (m : Int) (k : Int), (0 ≤ k) → (k ≤ 8) → (m = if set = 0 then sm k (fun c => mb (V 17 0) b c) else bits k (fun c => mb (V 17 0) b c ≠ 0)) → (8 - k : Int).toNat < fuel → Kz X G P V [some (.ref (ad G 16 0)), some (.int (iI b)), some (.int (iI set)), some (.int (iI m)), some (.int (iI k))] 5 [] := by
    intro fuel
    induction fuel with
    | zero => intro m k hk0 hk1 hs hf_5; exact absurd hf_5 (Nat.not_lt_zero _)
    | succ fuel ih_5 =>
      intro m k hk0 hk1 hs hf_5
      refine z_iload E dX6_inAll_5 rfl ?_
      refine z_bipush E dX6_inAll_7 rfl ?_
      refine z_icmp_ge E 53 dX6_inAll_9 rfl (by omega) (by omega) (fun c_2 => ?_) (fun c_2 => ?_)
      · skip
        refine z_iload_n E dX6_inAll_53 3 rfl rfl ?_
        exact z_iret E dX6_inAll_54 (⟨by rw [hs, show k = 8 by omega], rfl, rfl⟩)
      · skip
        refine z_iload_n E dX6_inAll_12 3 rfl rfl ?_
        refine z_iload_n E dX6_inAll_13 2 rfl rfl ?_
        refine z_if_eq E 38 dX6_inAll_14 rfl (by omega) (fun c_3 => ?_) (fun c_3 => ?_)
        · skip
          refine z_aload_n E dX6_inAll_38 0 rfl rfl ?_
          refine z_iload_n E dX6_inAll_39 1 rfl rfl ?_
          refine z_iload E dX6_inAll_40 rfl ?_
          refine z_callV E (ci := 6) (N := 16) (C := RX6) (T := TX6) (n := 2) (st := [.int (iI m)]) (rfl : vl 16 0 = true) rfl rfl [.int (iI b), .int (iI k)] (kX6_inBlock l G P V b k hB (by omega) (by omega) (by omega) (by omega)) gX6_inAll_X6_inBlock rfl ⟨rfl, rfl⟩ (by decide +kernel) ⟨Nat.le_of_ble_eq_true rfl, Nat.le_of_ble_eq_true rfl⟩ rfl rfl (Nat.le_of_ble_eq_true rfl) rfl dX6_inAll_42 (z_dtI ?_)
          have h_4a := mb_R hB b k (by omega) (by omega)
          refine z_iadd E dX6_inAll_45 ?_
          refine z_istore_n E dX6_inAll_46 3 rfl (L' := [some (.ref (ad G 16 0)), some (.int (iI b)), some (.int (iI set)), some (.int (iI (m + (mb (V 17 0) b k)))), some (.int (iI k))]) (Nat.le_of_ble_eq_true rfl) rfl ?_
          refine z_iinc E k dX6_inAll_47 (L' := [some (.ref (ad G 16 0)), some (.int (iI b)), some (.int (iI set)), some (.int (iI (m + (mb (V 17 0) b k)))), some (.int (iI (k + 1)))]) (Nat.le_of_ble_eq_true rfl) rfl rfl ?_
          refine z_goto E 5 dX6_inAll_50 rfl ?_
          exact ih_5 (m + (mb (V 17 0) b k)) (k + 1) (by omega) (by omega) (by first | (exfalso; omega) | (rw [if_pos (by assumption)] at hs ⊢; rw [sm_s (by omega), ← hs]; done) | (rw [if_neg (by assumption)] at hs ⊢; exact bits_t hs (by omega) (by assumption)) | (rw [if_neg (by assumption)] at hs ⊢; rw [Int.add_zero]; exact bits_f hs (by omega) (fun z => z (by assumption)))) (by omega)
        · skip
          refine z_aload_n E dX6_inAll_17 0 rfl rfl ?_
          refine z_iload_n E dX6_inAll_18 1 rfl rfl ?_
          refine z_iload E dX6_inAll_19 rfl ?_
          refine z_callV E (ci := 6) (N := 16) (C := RX6) (T := TX6) (n := 2) (st := [.int (iI m)]) (rfl : vl 16 0 = true) rfl rfl [.int (iI b), .int (iI k)] (kX6_inBlock l G P V b k hB (by omega) (by omega) (by omega) (by omega)) gX6_inAll_X6_inBlock rfl ⟨rfl, rfl⟩ (by decide +kernel) ⟨Nat.le_of_ble_eq_true rfl, Nat.le_of_ble_eq_true rfl⟩ rfl rfl (Nat.le_of_ble_eq_true rfl) rfl dX6_inAll_21 (z_dtI ?_)
          have h_5a := mb_R hB b k (by omega) (by omega)
          refine z_if_eq E 34 dX6_inAll_24 rfl (by omega) (fun c_6 => ?_) (fun c_6 => ?_)
          · skip
            refine z_iconst E dX6_inAll_34 ?_
            refine z_goto E 45 dX6_inAll_35 rfl ?_
            refine z_iadd E dX6_inAll_45 ?_
            refine z_istore_n E dX6_inAll_46 3 rfl (L' := [some (.ref (ad G 16 0)), some (.int (iI b)), some (.int (iI set)), some (.int (iI (m + 0))), some (.int (iI k))]) (Nat.le_of_ble_eq_true rfl) rfl ?_
            refine z_iinc E k dX6_inAll_47 (L' := [some (.ref (ad G 16 0)), some (.int (iI b)), some (.int (iI set)), some (.int (iI (m + 0))), some (.int (iI (k + 1)))]) (Nat.le_of_ble_eq_true rfl) rfl rfl ?_
            refine z_goto E 5 dX6_inAll_50 rfl ?_
            exact ih_5 (m + 0) (k + 1) (by omega) (by omega) (by first | (exfalso; omega) | (rw [if_pos (by assumption)] at hs ⊢; rw [sm_s (by omega), ← hs]; done) | (rw [if_neg (by assumption)] at hs ⊢; exact bits_t hs (by omega) (by assumption)) | (rw [if_neg (by assumption)] at hs ⊢; rw [Int.add_zero]; exact bits_f hs (by omega) (fun z => z (by assumption)))) (by omega)
          · skip
            refine z_iconst E dX6_inAll_27 ?_
            refine z_iload E dX6_inAll_28 rfl ?_
            refine z_ishl E dX6_inAll_30 (by omega) (by omega) ?_
            refine z_goto E 45 dX6_inAll_31 rfl ?_
            refine z_iadd E dX6_inAll_45 ?_
            refine z_istore_n E dX6_inAll_46 3 rfl (L' := [some (.ref (ad G 16 0)), some (.int (iI b)), some (.int (iI set)), some (.int (iI (m + (2 ^ k.toNat)))), some (.int (iI k))]) (Nat.le_of_ble_eq_true rfl) rfl ?_
            refine z_iinc E k dX6_inAll_47 (L' := [some (.ref (ad G 16 0)), some (.int (iI b)), some (.int (iI set)), some (.int (iI (m + (2 ^ k.toNat)))), some (.int (iI (k + 1)))]) (Nat.le_of_ble_eq_true rfl) rfl rfl ?_
            refine z_goto E 5 dX6_inAll_50 rfl ?_
            exact ih_5 (m + (2 ^ k.toNat)) (k + 1) (by omega) (by omega) (by first | (exfalso; omega) | (rw [if_pos (by assumption)] at hs ⊢; rw [sm_s (by omega), ← hs]; done) | (rw [if_neg (by assumption)] at hs ⊢; exact bits_t hs (by omega) (by assumption)) | (rw [if_neg (by assumption)] at hs ⊢; rw [Int.add_zero]; exact bits_f hs (by omega) (fun z => z (by assumption)))) (by omega)
  exact lp_5_1 ((8 - 0 : Int).toNat + 1) 0 0 (by omega) (by omega) (by rw [sm_0 (by omega), bits_0]; split <;> rfl) (Nat.lt_succ_self _)

set_option maxHeartbeats 4000000 in
set_option maxRecDepth 100000 in
theorem kX6_otherLike (l : Launch) (G : Gl) (P : Nat → Nat) (V : Vt) (b : Int) (hB : BV V) (a1 : 0 ≤ b) (a2 : b < 40) : Met l yX6_otherLike wsX6_otherLike ({ frames := 2, cells := 0, slots := 0, locals := 46 }) (va_Pc [.ref (ad G 16 0), .int (iI b)] (Sg G P V)) (Qk G mkI (dt (fO (fnd 40 (fun o => ¬ o = b ∧ (0 ≤ o ∧ o ≤ 39 ∧ mf (V 17 0) o = 1) ∧ ∀ c, 0 ≤ c → c < 8 → mb (V 17 0) o c = mb (V 17 0) b c))) P V)) 0 0 (mem G) := by
  refine z_met (cc := cX6_otherLike) (nL := 3) (ret := (some .int)) (own := RX6) (by decide +kernel) rfl rfl (Nat.le_of_ble_eq_true rfl) (zz_cat rfl) (L := [some (.ref (ad G 16 0)), some (.int (iI b)), none]) rfl ?_
  intro X E
  have f0 : Cond.constant RX6 43 (-1000004) ∈ wsX6_otherLike := by decide +kernel
  refine z_iconst E dX6_otherLike_0 ?_
  refine z_istore_n E dX6_otherLike_1 2 rfl (L' := [some (.ref (ad G 16 0)), some (.int (iI b)), some (.int (iI 0))]) (Nat.le_of_ble_eq_true rfl) rfl ?_
  have lp_2_1 : ∀ (fuel : Nat) (k : Int), (0 ≤ k) → (k ≤ 40) → (∀ o, 0 ≤ o → o < k → ¬ (¬ o = b ∧ (0 ≤ o ∧ o ≤ 39 ∧ mf (V 17 0) o = 1) ∧ ∀ c, 0 ≤ c → c < 8 → mb (V 17 0) o c = mb (V 17 0) b c)) → (40 - k : Int).toNat < fuel → Kz X G P V [some (.ref (ad G 16 0)), some (.int (iI b)), some (.int (iI k))] 2 [] := by
    intro fuel
    induction fuel with
    | zero => intro k hk0 hk1 hla hf_2; exact absurd hf_2 (Nat.not_lt_zero _)
    | succ fuel ih_2 =>
      intro k hk0 hk1 hla hf_2
      refine z_iload_n E dX6_otherLike_2 2 rfl rfl ?_
      refine z_bipush E dX6_otherLike_3 rfl ?_
      refine z_icmp_ge E 38 dX6_otherLike_5 rfl (by omega) (by omega) (fun c_2 => ?_) (fun c_2 => ?_)
      · skip
        refine z_ldc E (-1000004) f0 rfl dX6_otherLike_38 ?_
        exact z_iret E dX6_otherLike_40 (by
            have hf : fnd 40 (fun o => ¬ o = b ∧ (0 ≤ o ∧ o ≤ 39 ∧ mf (V 17 0) o = 1) ∧ ∀ c, 0 ≤ c → c < 8 → mb (V 17 0) o c = mb (V 17 0) b c) = -1 := fnd_n (fun j h0 h1 => hla j h0 (by omega))
            exact ⟨by rw [hf] <;> rfl, rfl, rfl⟩)
      · skip
        refine z_iload_n E dX6_otherLike_8 2 rfl rfl ?_
        refine z_iload_n E dX6_otherLike_9 1 rfl rfl ?_
        refine z_icmp_eq E 32 dX6_otherLike_10 rfl (by omega) (by omega) (fun c_3 => ?_) (fun c_3 => ?_)
        · skip
          refine z_iinc E k dX6_otherLike_32 (L' := [some (.ref (ad G 16 0)), some (.int (iI b)), some (.int (iI (k + 1)))]) (Nat.le_of_ble_eq_true rfl) rfl rfl ?_
          refine z_goto E 2 dX6_otherLike_35 rfl ?_
          exact ih_2 (k + 1) (by omega) (by omega) (all_s hla (by first | exact fun z => absurd (by assumption) z.1 | exact fun z => absurd z.2.1 (by assumption) | exact fun z => absurd z.2.2 (by assumption))) (by omega)
        · skip
          refine z_aload_n E dX6_otherLike_13 0 rfl rfl ?_
          refine z_iload_n E dX6_otherLike_14 2 rfl rfl ?_
          refine z_callV E (ci := 6) (N := 16) (C := RX6) (T := TX6) (n := 1) (st := []) (rfl : vl 16 0 = true) rfl rfl [.int (iI k)] (kX6_isBlock l G P V k hB (by omega)) gX6_otherLike_X6_isBlock rfl ⟨rfl, rfl⟩ (by decide +kernel) ⟨Nat.le_of_ble_eq_true rfl, Nat.le_of_ble_eq_true rfl⟩ rfl rfl (Nat.le_of_ble_eq_true rfl) rfl dX6_otherLike_15 (z_dtI ?_)
          refine z_ifeq_b E 32 dX6_otherLike_18 rfl (fun c_5 => ?_) (fun c_5 => ?_)
          · skip
            refine z_iinc E k dX6_otherLike_32 (L' := [some (.ref (ad G 16 0)), some (.int (iI b)), some (.int (iI (k + 1)))]) (Nat.le_of_ble_eq_true rfl) rfl rfl ?_
            refine z_goto E 2 dX6_otherLike_35 rfl ?_
            exact ih_2 (k + 1) (by omega) (by omega) (all_s hla (by first | exact fun z => absurd (by assumption) z.1 | exact fun z => absurd z.2.1 (by assumption) | exact fun z => absurd z.2.2 (by assumption))) (by omega)
          · skip
            refine z_aload_n E dX6_otherLike_21 0 rfl rfl ?_
            refine z_iload_n E dX6_otherLike_22 2 rfl rfl ?_
            refine z_iload_n E dX6_otherLike_23 1 rfl rfl ?_
            refine z_callV E (ci := 6) (N := 16) (C := RX6) (T := TX6) (n := 2) (st := []) (rfl : vl 16 0 = true) rfl rfl [.int (iI k), .int (iI b)] (kX6_areLike l G P V k b hB (by omega) (by omega) (by omega) (by omega)) gX6_otherLike_X6_areLike rfl ⟨rfl, rfl⟩ (by decide +kernel) ⟨Nat.le_of_ble_eq_true rfl, Nat.le_of_ble_eq_true rfl⟩ rfl rfl (Nat.le_of_ble_eq_true rfl) rfl dX6_otherLike_24 (z_dtI ?_)
            refine z_ifeq_b E 32 dX6_otherLike_27 rfl (fun c_7 => ?_) (fun c_7 => ?_)
            · skip
              refine z_iinc E k dX6_otherLike_32 (L' := [some (.ref (ad G 16 0)), some (.int (iI b)), some (.int (iI (k + 1)))]) (Nat.le_of_ble_eq_true rfl) rfl rfl ?_
              refine z_goto E 2 dX6_otherLike_35 rfl ?_
              exact ih_2 (k + 1) (by omega) (by omega) (all_s hla (by first | exact fun z => absurd (by assumption) z.1 | exact fun z => absurd z.2.1 (by assumption) | exact fun z => absurd z.2.2 (by assumption))) (by omega)
            · skip
              refine z_iload_n E dX6_otherLike_30 2 rfl rfl ?_
              exact z_iret E dX6_otherLike_31 (by
                  have hf : fnd 40 (fun o => ¬ o = b ∧ (0 ≤ o ∧ o ≤ 39 ∧ mf (V 17 0) o = 1) ∧ ∀ c, 0 ≤ c → c < 8 → mb (V 17 0) o c = mb (V 17 0) b c) = k := fnd_y (by omega) (by omega) ⟨by assumption, by assumption, by assumption⟩ hla
                  exact ⟨by rw [hf, fO_t hk0], rfl, rfl⟩)
  exact lp_2_1 ((40 - 0 : Int).toNat + 1) 0 (by omega) (by omega) all_0 (Nat.lt_succ_self _)

set_option maxHeartbeats 4000000 in
set_option maxRecDepth 100000 in
theorem kX6_blockOf (l : Launch) (G : Gl) (P : Nat → Nat) (V : Vt) (b : Int) (what : Int) (hB : BV V) (hm0 : 0 ≤ V 17 0 0) (hm1 : V 17 0 0 ≤ 16) (hmL : ∀ k p, 0 ≤ k → k < 16 → 0 ≤ p → p < 6 → 0 ≤ mo (V 17 0) k (2 + p) ∧ mo (V 17 0) k (2 + p) < 40) (a1 : inR b) (a2 : inR what) : Met l yX6_blockOf wsX6_blockOf ({ frames := 3, cells := 0, slots := 0, locals := 69 }) (va_Pc [.ref (ad G 16 0), .int (iI b), .int (iI what)] (Sg G P V)) (Qk G mkI (dt (if ¬ (0 ≤ b ∧ b ≤ 39 ∧ mf (V 17 0) b = 1) ∨ what < 0 ∨ 4 < what then -1000001 else if what = 0 then pwM (V 17 0) b else if what = 1 then sm (V 17 0 0) (fun k => b2i (∃ p, 0 ≤ p ∧ p < 6 ∧ mo (V 17 0) k (2 + p) = b)) else if what = 2 then sm 8 (fun c => mb (V 17 0) b c) else if what = 3 then bits 8 (fun c => mb (V 17 0) b c ≠ 0) else fO (fnd 40 (fun o => ¬ o = b ∧ (0 ≤ o ∧ o ≤ 39 ∧ mf (V 17 0) o = 1) ∧ ∀ c, 0 ≤ c → c < 8 → mb (V 17 0) o c = mb (V 17 0) b c))) P V)) 0 0 (mem G) := by
  refine z_met (cc := cX6_blockOf) (nL := 3) (ret := (some .int)) (own := RX6) (by decide +kernel) rfl rfl (Nat.le_of_ble_eq_true rfl) (zz_cat rfl) (L := [some (.ref (ad G 16 0)), some (.int (iI b)), some (.int (iI what))]) rfl ?_
  intro X E
  have f0 : Cond.constant RX6 111 (-1000001) ∈ wsX6_blockOf := by decide +kernel
  refine z_aload_n E dX6_blockOf_0 0 rfl rfl ?_
  refine z_iload_n E dX6_blockOf_1 1 rfl rfl ?_
  refine z_callV E (ci := 6) (N := 16) (C := RX6) (T := TX6) (n := 1) (st := []) (rfl : vl 16 0 = true) rfl rfl [.int (iI b)] (kX6_isBlock l G P V b hB (by omega)) gX6_blockOf_X6_isBlock rfl ⟨rfl, rfl⟩ (by decide +kernel) ⟨Nat.le_of_ble_eq_true rfl, Nat.le_of_ble_eq_true rfl⟩ rfl rfl (Nat.le_of_ble_eq_true rfl) rfl dX6_blockOf_2 (z_dtI ?_)
  refine z_ifeq_b E 17 dX6_blockOf_5 rfl (fun c_2 => ?_) (fun c_2 => ?_)
  · skip
    refine z_ldc E (-1000001) f0 rfl dX6_blockOf_17 ?_
    exact z_iret E dX6_blockOf_19 (⟨by rw [if_pos (by omega)], rfl, rfl⟩)
  · skip
    refine z_iload_n E dX6_blockOf_8 2 rfl rfl ?_
    refine z_iconst E dX6_blockOf_9 ?_
    refine z_iconst E dX6_blockOf_10 ?_
    refine z_callS E (n := 3) (st := []) [.int (iI what), .int (iI 0), .int (iI 4)] (kX6_in l G P V what 0 4 (by omega) (by omega) (by omega)) gX6_blockOf_X6_in rfl ⟨rfl, rfl⟩ (by decide +kernel) ⟨Nat.le_of_ble_eq_true rfl, Nat.le_of_ble_eq_true rfl⟩ rfl rfl (Nat.le_of_ble_eq_true rfl) rfl dX6_blockOf_11 (z_dtI ?_)
    refine z_ifne_b E 20 dX6_blockOf_14 rfl (fun c_4 => ?_) (fun c_4 => ?_)
    · skip
      refine z_iload_n E dX6_blockOf_20 2 rfl rfl ?_
      by_cases q_5_0 : what = 0
      · skip
        refine z_tsI E 0 52 q_5_0 (by omega) dX6_blockOf_21 (by decide) (by decide) rfl rfl ?_
        refine z_aload_n E dX6_blockOf_52 0 rfl rfl ?_
        refine z_iload_n E dX6_blockOf_53 1 rfl rfl ?_
        refine z_callV E (ci := 6) (N := 16) (C := RX6) (T := TX6) (n := 1) (st := []) (rfl : vl 16 0 = true) rfl rfl [.int (iI b)] (kX6_placesWith l G P V b hB (by omega) (by omega) hmL (by omega)) gX6_blockOf_X6_placesWith rfl ⟨rfl, rfl⟩ (by decide +kernel) ⟨Nat.le_of_ble_eq_true rfl, Nat.le_of_ble_eq_true rfl⟩ rfl rfl (Nat.le_of_ble_eq_true rfl) rfl dX6_blockOf_54 (z_dtI ?_)
        have h_6a := pwM_bd (V 17 0) b (by omega) (by omega)
        exact z_iret E dX6_blockOf_57 (⟨by rw [if_neg (by omega), if_pos (by omega)], rfl, rfl⟩)
      by_cases q_5_1 : what = 1
      · skip
        refine z_tsI E 1 58 q_5_1 (by omega) dX6_blockOf_21 (by decide) (by decide) rfl rfl ?_
        refine z_aload_n E dX6_blockOf_58 0 rfl rfl ?_
        refine z_iload_n E dX6_blockOf_59 1 rfl rfl ?_
        refine z_callV E (ci := 6) (N := 16) (C := RX6) (T := TX6) (n := 1) (st := []) (rfl : vl 16 0 = true) rfl rfl [.int (iI b)] (kX6_statesWith l G P V b hB (by omega) (by omega) hmL (by omega)) gX6_blockOf_X6_statesWith rfl ⟨rfl, rfl⟩ (by decide +kernel) ⟨Nat.le_of_ble_eq_true rfl, Nat.le_of_ble_eq_true rfl⟩ rfl rfl (Nat.le_of_ble_eq_true rfl) rfl dX6_blockOf_60 (z_dtI ?_)
        have h_7a := sm_b2i_bd (n := V 17 0 0) (p := fun jj => ∃ qq, 0 ≤ qq ∧ qq < 6 ∧ mo (V 17 0) jj (2 + qq) = b) (by omega)
        exact z_iret E dX6_blockOf_63 (⟨by rw [if_neg (by omega), if_neg (by omega), if_pos (by omega)], rfl, rfl⟩)
      by_cases q_5_2 : what = 2
      · skip
        refine z_tsI E 2 64 q_5_2 (by omega) dX6_blockOf_21 (by decide) (by decide) rfl rfl ?_
        refine z_aload_n E dX6_blockOf_64 0 rfl rfl ?_
        refine z_iload_n E dX6_blockOf_65 1 rfl rfl ?_
        refine z_iload_n E dX6_blockOf_66 2 rfl rfl ?_
        refine z_iconst E dX6_blockOf_67 ?_
        refine z_icmp_ne E 75 dX6_blockOf_68 rfl (by omega) (by omega) (fun c_8 => ?_) (fun c_8 => ?_)
        · skip
          refine z_iconst E dX6_blockOf_75 ?_
          refine z_callV E (ci := 6) (N := 16) (C := RX6) (T := TX6) (n := 2) (st := []) (rfl : vl 16 0 = true) rfl rfl [.int (iI b), .int (iI 0)] (kX6_inAll l G P V b 0 hB (by omega) (by omega) (by omega)) gX6_blockOf_X6_inAll rfl ⟨rfl, rfl⟩ (by decide +kernel) ⟨Nat.le_of_ble_eq_true rfl, Nat.le_of_ble_eq_true rfl⟩ rfl rfl (Nat.le_of_ble_eq_true rfl) rfl dX6_blockOf_76 (z_dtI ?_)
          exact z_iret E dX6_blockOf_79 (⟨by first | (exfalso; omega) | (rw [if_pos (show (0 : Int) = 0 from rfl), if_neg (by omega), if_neg (by omega), if_neg (by omega), if_pos (by omega)]; done) | (rw [if_neg (show ¬ ((1 : Int) = 0) by decide), if_neg (by omega), if_neg (by omega), if_neg (by omega), if_neg (by omega), if_pos (by omega)]; done), rfl, rfl⟩)
        · skip
          refine z_iconst E dX6_blockOf_71 ?_
          refine z_goto E 76 dX6_blockOf_72 rfl ?_
          refine z_callV E (ci := 6) (N := 16) (C := RX6) (T := TX6) (n := 2) (st := []) (rfl : vl 16 0 = true) rfl rfl [.int (iI b), .int (iI 1)] (kX6_inAll l G P V b 1 hB (by omega) (by omega) (by omega)) gX6_blockOf_X6_inAll rfl ⟨rfl, rfl⟩ (by decide +kernel) ⟨Nat.le_of_ble_eq_true rfl, Nat.le_of_ble_eq_true rfl⟩ rfl rfl (Nat.le_of_ble_eq_true rfl) rfl dX6_blockOf_76 (z_dtI ?_)
          exact z_iret E dX6_blockOf_79 (⟨by first | (exfalso; omega) | (rw [if_pos (show (0 : Int) = 0 from rfl), if_neg (by omega), if_neg (by omega), if_neg (by omega), if_pos (by omega)]; done) | (rw [if_neg (show ¬ ((1 : Int) = 0) by decide), if_neg (by omega), if_neg (by omega), if_neg (by omega), if_neg (by omega), if_pos (by omega)]; done), rfl, rfl⟩)
      by_cases q_5_3 : what = 3
      · skip
        refine z_tsI E 3 64 q_5_3 (by omega) dX6_blockOf_21 (by decide) (by decide) rfl rfl ?_
        refine z_aload_n E dX6_blockOf_64 0 rfl rfl ?_
        refine z_iload_n E dX6_blockOf_65 1 rfl rfl ?_
        refine z_iload_n E dX6_blockOf_66 2 rfl rfl ?_
        refine z_iconst E dX6_blockOf_67 ?_
        refine z_icmp_ne E 75 dX6_blockOf_68 rfl (by omega) (by omega) (fun c_11 => ?_) (fun c_11 => ?_)
        · skip
          refine z_iconst E dX6_blockOf_75 ?_
          refine z_callV E (ci := 6) (N := 16) (C := RX6) (T := TX6) (n := 2) (st := []) (rfl : vl 16 0 = true) rfl rfl [.int (iI b), .int (iI 0)] (kX6_inAll l G P V b 0 hB (by omega) (by omega) (by omega)) gX6_blockOf_X6_inAll rfl ⟨rfl, rfl⟩ (by decide +kernel) ⟨Nat.le_of_ble_eq_true rfl, Nat.le_of_ble_eq_true rfl⟩ rfl rfl (Nat.le_of_ble_eq_true rfl) rfl dX6_blockOf_76 (z_dtI ?_)
          exact z_iret E dX6_blockOf_79 (⟨by first | (exfalso; omega) | (rw [if_pos (show (0 : Int) = 0 from rfl), if_neg (by omega), if_neg (by omega), if_neg (by omega), if_pos (by omega)]; done) | (rw [if_neg (show ¬ ((1 : Int) = 0) by decide), if_neg (by omega), if_neg (by omega), if_neg (by omega), if_neg (by omega), if_pos (by omega)]; done), rfl, rfl⟩)
        · skip
          refine z_iconst E dX6_blockOf_71 ?_
          refine z_goto E 76 dX6_blockOf_72 rfl ?_
          refine z_callV E (ci := 6) (N := 16) (C := RX6) (T := TX6) (n := 2) (st := []) (rfl : vl 16 0 = true) rfl rfl [.int (iI b), .int (iI 1)] (kX6_inAll l G P V b 1 hB (by omega) (by omega) (by omega)) gX6_blockOf_X6_inAll rfl ⟨rfl, rfl⟩ (by decide +kernel) ⟨Nat.le_of_ble_eq_true rfl, Nat.le_of_ble_eq_true rfl⟩ rfl rfl (Nat.le_of_ble_eq_true rfl) rfl dX6_blockOf_76 (z_dtI ?_)
          exact z_iret E dX6_blockOf_79 (⟨by first | (exfalso; omega) | (rw [if_pos (show (0 : Int) = 0 from rfl), if_neg (by omega), if_neg (by omega), if_neg (by omega), if_pos (by omega)]; done) | (rw [if_neg (show ¬ ((1 : Int) = 0) by decide), if_neg (by omega), if_neg (by omega), if_neg (by omega), if_neg (by omega), if_pos (by omega)]; done), rfl, rfl⟩)
      refine z_tsO E 80 (by omega) dX6_blockOf_21 (by omega) rfl ?_
      refine z_aload_n E dX6_blockOf_80 0 rfl rfl ?_
      refine z_iload_n E dX6_blockOf_81 1 rfl rfl ?_
      refine z_callV E (ci := 6) (N := 16) (C := RX6) (T := TX6) (n := 1) (st := []) (rfl : vl 16 0 = true) rfl rfl [.int (iI b)] (kX6_otherLike l G P V b hB (by omega) (by omega)) gX6_blockOf_X6_otherLike rfl ⟨rfl, rfl⟩ (by decide +kernel) ⟨Nat.le_of_ble_eq_true rfl, Nat.le_of_ble_eq_true rfl⟩ rfl rfl (Nat.le_of_ble_eq_true rfl) rfl dX6_blockOf_82 (z_dtI ?_)
      exact z_iret E dX6_blockOf_85 (⟨by rw [if_neg (by omega), if_neg (by omega), if_neg (by omega), if_neg (by omega), if_neg (by omega)], rfl, rfl⟩)
    · skip
      refine z_ldc E (-1000001) f0 rfl dX6_blockOf_17 ?_
      exact z_iret E dX6_blockOf_19 (⟨by rw [if_pos (by omega)], rfl, rfl⟩)

set_option maxHeartbeats 4000000 in
set_option maxRecDepth 100000 in
theorem kX6_head (l : Launch) (G : Gl) (P : Nat → Nat) (V : Vt) (b : Int) (hB : BV V) (a1 : inR b) : Met l yX6_head wsX6_head ({ frames := 2, cells := 0, slots := 0, locals := 43 }) (va_Pc [.ref (ad G 16 0), .int (iI b)] (Sg G P V)) (Qk G mkI (dt (if 0 ≤ b ∧ b ≤ 3 ∧ 0 ≤ mh (V 17 0) b then mh (V 17 0) b else -1000001) P V)) 0 0 (mem G) := by
  refine z_met (cc := cX6_head) (nL := 2) (ret := (some .int)) (own := RX6) (by decide +kernel) rfl rfl (Nat.le_of_ble_eq_true rfl) (zz_cat rfl) (L := [some (.ref (ad G 16 0)), some (.int (iI b))]) rfl ?_
  intro X E
  have iX6 : ∀ x ∈ wsX60, x ∈ wsX6_head := by decide +kernel
  have f0 : Cond.constant RX6 111 (-1000001) ∈ wsX6_head := by decide +kernel
  have f1 : Cond.fieldLink RX6 7 "SharedStatesModel" "s" "[I" ∈ wsX6_head := by decide +kernel
  refine z_aload_n E dX6_head_0 0 rfl rfl ?_
  refine z_iload_n E dX6_head_1 1 rfl rfl ?_
  refine z_callV E (ci := 6) (N := 16) (C := RX6) (T := TX6) (n := 1) (st := []) (rfl : vl 16 0 = true) rfl rfl [.int (iI b)] (kX6_isBranch l G P V b hB (by omega)) gX6_head_X6_isBranch rfl ⟨rfl, rfl⟩ (by decide +kernel) ⟨Nat.le_of_ble_eq_true rfl, Nat.le_of_ble_eq_true rfl⟩ rfl rfl (Nat.le_of_ble_eq_true rfl) rfl dX6_head_2 (z_dtI ?_)
  refine z_ifeq_b E 20 dX6_head_5 rfl (fun c_2 => ?_) (fun c_2 => ?_)
  · skip
    refine z_ldc E (-1000001) f0 rfl dX6_head_20 ?_
    exact z_iret E dX6_head_22 (⟨by first | (rw [if_pos (by omega)]; done) | (rw [if_neg (by omega)]; done) | (rw [if_pos (by omega)]; rfl), rfl, rfl⟩)
  · skip
    refine z_aload_n E dX6_head_8 0 rfl rfl ?_
    refine z_get E (ci := 6) (N := 16) (C := RX6) (T := TX6) (rfl : vl 16 0 = true) rfl rfl iX6 0 (by decide) rfl f1 rfl dX6_head_9 ?_
    refine z_bipush E dX6_head_12 rfl ?_
    refine z_iload_n E dX6_head_14 1 rfl rfl ?_
    refine z_iadd E dX6_head_15 ?_
    refine z_iald E (rfl : vl 17 0 = true) 498 rfl (by omega) (by omega) (by omega) dX6_head_16 ?_
    have hr_3 := hB.s (6 + b) (by omega)
    refine z_goto E 22 dX6_head_17 rfl ?_
    exact z_iret E dX6_head_22 (⟨by first | (rw [if_pos (by omega)]; done) | (rw [if_neg (by omega)]; done) | (rw [if_pos (by omega)]; rfl), rfl, rfl⟩)

set_option maxHeartbeats 4000000 in
set_option maxRecDepth 100000 in
theorem kX6_unlikeCells (l : Launch) (G : Gl) (P : Nat → Nat) (V : Vt) (k : Int) (o : Int) (first : Int) (hB : BV V) (hm0 : 0 ≤ V 17 0 0) (hm1 : V 17 0 0 ≤ 16) (hmL : ∀ k p, 0 ≤ k → k < 16 → 0 ≤ p → p < 6 → 0 ≤ mo (V 17 0) k (2 + p) ∧ mo (V 17 0) k (2 + p) < 40) (a1 : 0 ≤ k) (a2 : k < 16) (a3 : 0 ≤ o) (a4 : o < 16) (a5 : inR first) : Met l yX6_unlikeCells wsX6_unlikeCells ({ frames := 2, cells := 0, slots := 0, locals := 44 }) (va_Pc [.ref (ad G 16 0), .int (iI k), .int (iI o), .int (iI first)] (Sg G P V)) (Qk G mkI (dt (if first = 0 then sm 48 (fun c => b2i (¬ mc (V 17 0) k c = mc (V 17 0) o c)) else fO (fnd 48 (fun c => ¬ mc (V 17 0) k c = mc (V 17 0) o c))) P V)) 0 0 (mem G) := by
  refine z_met (cc := cX6_unlikeCells) (nL := 7) (ret := (some .int)) (own := RX6) (by decide +kernel) rfl rfl (Nat.le_of_ble_eq_true rfl) (zz_cat rfl) (L := [some (.ref (ad G 16 0)), some (.int (iI k)), some (.int (iI o)), some (.int (iI first)), none, none, none]) rfl ?_
  intro X E
  have f0 : Cond.constant RX6 43 (-1000004) ∈ wsX6_unlikeCells := by decide +kernel
  refine z_iconst E dX6_unlikeCells_0 ?_
  refine z_istore E dX6_unlikeCells_1 (L' := [some (.ref (ad G 16 0)), some (.int (iI k)), some (.int (iI o)), some (.int (iI first)), some (.int (iI 0)), none, none]) (Nat.le_of_ble_eq_true rfl) rfl ?_
  refine z_iconst E dX6_unlikeCells_3 ?_
  refine z_istore E dX6_unlikeCells_4 (L' := [some (.ref (ad G 16 0)), some (.int (iI k)), some (.int (iI o)), some (.int (iI first)), some (.int (iI 0)), some (.int (iI 0)), none]) (Nat.le_of_ble_eq_true rfl) rfl ?_
  have lp_6_1 : ∀ (fuel : Nat) (m : Int) (c : Int), (0 ≤ c) → (c ≤ 48) → (m = sm c (fun c => b2i (¬ mc (V 17 0) k c = mc (V 17 0) o c))) → (¬ first = 0 → ∀ d, 0 ≤ d → d < c → ¬ ¬ mc (V 17 0) k d = mc (V 17 0) o d) → (48 - c : Int).toNat < fuel → Kz X G P V [some (.ref (ad G 16 0)), some (.int (iI k)), some (.int (iI o)), some (.int (iI first)), some (.int (iI m)), some (.int (iI c)), none] 6 [] := by
    intro fuel
    induction fuel with
    | zero => intro m c hk0 hk1 hs hla hf_6; exact absurd hf_6 (Nat.not_lt_zero _)
    | succ fuel ih_6 =>
      intro m c hk0 hk1 hs hla hf_6
      refine z_iload E dX6_unlikeCells_6 rfl ?_
      refine z_bipush E dX6_unlikeCells_8 rfl ?_
      refine z_icmp_ge E 70 dX6_unlikeCells_10 rfl (by omega) (by omega) (fun c_2 => ?_) (fun c_2 => ?_)
      · skip
        refine z_iload_n E dX6_unlikeCells_70 3 rfl rfl ?_
        refine z_if_eq E 79 dX6_unlikeCells_71 rfl (by omega) (fun c_3 => ?_) (fun c_3 => ?_)
        · skip
          refine z_iload E dX6_unlikeCells_79 rfl ?_
          exact z_iret E dX6_unlikeCells_81 (⟨by first | (rw [if_neg (by assumption), fnd_n (fun j h0 h1 => hla (by assumption) j h0 (by omega))] <;> rfl) | (rw [if_pos (by assumption), hs, show c = 48 by omega]; done), rfl, rfl⟩)
        · skip
          refine z_ldc E (-1000004) f0 rfl dX6_unlikeCells_74 ?_
          refine z_goto E 81 dX6_unlikeCells_76 rfl ?_
          exact z_iret E dX6_unlikeCells_81 (⟨by first | (rw [if_neg (by assumption), fnd_n (fun j h0 h1 => hla (by assumption) j h0 (by omega))] <;> rfl) | (rw [if_pos (by assumption), hs, show c = 48 by omega]; done), rfl, rfl⟩)
      · skip
        refine z_aload_n E dX6_unlikeCells_13 0 rfl rfl ?_
        refine z_iload_n E dX6_unlikeCells_14 1 rfl rfl ?_
        refine z_iload E dX6_unlikeCells_15 rfl ?_
        refine z_callV E (ci := 6) (N := 16) (C := RX6) (T := TX6) (n := 2) (st := []) (rfl : vl 16 0 = true) rfl rfl [.int (iI k), .int (iI c)] (kX6_cellOf l G P V k c hB (by omega) (by omega) hmL (by omega) (by omega) (by omega) (by omega)) gX6_unlikeCells_X6_cellOf rfl ⟨rfl, rfl⟩ (by decide +kernel) ⟨Nat.le_of_ble_eq_true rfl, Nat.le_of_ble_eq_true rfl⟩ rfl rfl (Nat.le_of_ble_eq_true rfl) rfl dX6_unlikeCells_17 (z_dtI ?_)
        have h_4a := mc_R hB hmL k c (by omega) (by omega) (by omega) (by omega)
        refine z_aload_n E dX6_unlikeCells_20 0 rfl rfl ?_
        refine z_iload_n E dX6_unlikeCells_21 2 rfl rfl ?_
        refine z_iload E dX6_unlikeCells_22 rfl ?_
        refine z_callV E (ci := 6) (N := 16) (C := RX6) (T := TX6) (n := 2) (st := [.int (iI (mc (V 17 0) k c))]) (rfl : vl 16 0 = true) rfl rfl [.int (iI o), .int (iI c)] (kX6_cellOf l G P V o c hB (by omega) (by omega) hmL (by omega) (by omega) (by omega) (by omega)) gX6_unlikeCells_X6_cellOf rfl ⟨rfl, rfl⟩ (by decide +kernel) ⟨Nat.le_of_ble_eq_true rfl, Nat.le_of_ble_eq_true rfl⟩ rfl rfl (Nat.le_of_ble_eq_true rfl) rfl dX6_unlikeCells_24 (z_dtI ?_)
        have h_5a := mc_R hB hmL o c (by omega) (by omega) (by omega) (by omega)
        refine z_icmp_eq E 34 dX6_unlikeCells_27 rfl (by omega) (by omega) (fun c_6 => ?_) (fun c_6 => ?_)
        · skip
          refine z_iconst E dX6_unlikeCells_34 ?_
          refine z_istore E dX6_unlikeCells_35 (L' := [some (.ref (ad G 16 0)), some (.int (iI k)), some (.int (iI o)), some (.int (iI first)), some (.int (iI m)), some (.int (iI c)), some (.int (iI 0))]) (Nat.le_of_ble_eq_true rfl) rfl ?_
          refine z_iload E dX6_unlikeCells_37 rfl ?_
          refine z_if_eq E 49 dX6_unlikeCells_39 rfl (by omega) (fun _ => ?_) (fun c => absurd c (by decide))
          refine z_iload E dX6_unlikeCells_49 rfl ?_
          refine z_iload E dX6_unlikeCells_51 rfl ?_
          refine z_if_eq E 60 dX6_unlikeCells_53 rfl (by omega) (fun _ => ?_) (fun c => absurd c (by decide))
          refine z_iconst E dX6_unlikeCells_60 ?_
          refine z_iadd E dX6_unlikeCells_61 ?_
          refine z_istore E dX6_unlikeCells_62 (L' := [some (.ref (ad G 16 0)), some (.int (iI k)), some (.int (iI o)), some (.int (iI first)), some (.int (iI (m + 0))), some (.int (iI c)), some (.int (iI 0))]) (Nat.le_of_ble_eq_true rfl) rfl ?_
          refine z_iinc E c dX6_unlikeCells_64 (L' := [some (.ref (ad G 16 0)), some (.int (iI k)), some (.int (iI o)), some (.int (iI first)), some (.int (iI (m + 0))), some (.int (iI (c + 1))), some (.int (iI 0))]) (Nat.le_of_ble_eq_true rfl) rfl rfl ?_
          refine z_goto E 6 dX6_unlikeCells_67 rfl ?_
          refine Kz.drop 6 (L' := [some (.ref (ad G 16 0)), some (.int (iI k)), some (.int (iI o)), some (.int (iI first)), some (.int (iI (m + 0))), some (.int (iI (c + 1))), none]) rfl ?_
          exact ih_6 (m + 0) (c + 1) (by omega) (by omega) (by first | exact smb_t hs (by omega) (by assumption) | exact smb_f hs (by omega) (fun z => z (by assumption))) (fun hf => all_s (hla hf) (by first | exact fun z => z (by assumption) | exact absurd (by assumption) hf)) (by omega)
        · skip
          refine z_iconst E dX6_unlikeCells_30 ?_
          refine z_goto E 35 dX6_unlikeCells_31 rfl ?_
          refine z_istore E dX6_unlikeCells_35 (L' := [some (.ref (ad G 16 0)), some (.int (iI k)), some (.int (iI o)), some (.int (iI first)), some (.int (iI m)), some (.int (iI c)), some (.int (iI 1))]) (Nat.le_of_ble_eq_true rfl) rfl ?_
          refine z_iload E dX6_unlikeCells_37 rfl ?_
          refine z_if_eq E 49 dX6_unlikeCells_39 rfl (by omega) (fun c => absurd c (by decide)) (fun _ => ?_)
          refine z_iload_n E dX6_unlikeCells_42 3 rfl rfl ?_
          refine z_if_eq E 49 dX6_unlikeCells_43 rfl (by omega) (fun c_10 => ?_) (fun c_10 => ?_)
          · skip
            refine z_iload E dX6_unlikeCells_49 rfl ?_
            refine z_iload E dX6_unlikeCells_51 rfl ?_
            refine z_if_eq E 60 dX6_unlikeCells_53 rfl (by omega) (fun c => absurd c (by decide)) (fun _ => ?_)
            refine z_iconst E dX6_unlikeCells_56 ?_
            refine z_goto E 61 dX6_unlikeCells_57 rfl ?_
            refine z_iadd E dX6_unlikeCells_61 ?_
            refine z_istore E dX6_unlikeCells_62 (L' := [some (.ref (ad G 16 0)), some (.int (iI k)), some (.int (iI o)), some (.int (iI first)), some (.int (iI (m + 1))), some (.int (iI c)), some (.int (iI 1))]) (Nat.le_of_ble_eq_true rfl) rfl ?_
            refine z_iinc E c dX6_unlikeCells_64 (L' := [some (.ref (ad G 16 0)), some (.int (iI k)), some (.int (iI o)), some (.int (iI first)), some (.int (iI (m + 1))), some (.int (iI (c + 1))), some (.int (iI 1))]) (Nat.le_of_ble_eq_true rfl) rfl rfl ?_
            refine z_goto E 6 dX6_unlikeCells_67 rfl ?_
            refine Kz.drop 6 (L' := [some (.ref (ad G 16 0)), some (.int (iI k)), some (.int (iI o)), some (.int (iI first)), some (.int (iI (m + 1))), some (.int (iI (c + 1))), none]) rfl ?_
            exact ih_6 (m + 1) (c + 1) (by omega) (by omega) (by first | exact smb_t hs (by omega) (by assumption) | exact smb_f hs (by omega) (fun z => z (by assumption))) (fun hf => all_s (hla hf) (by first | exact fun z => z (by assumption) | exact absurd (by assumption) hf)) (by omega)
          · skip
            refine z_iload E dX6_unlikeCells_46 rfl ?_
            exact z_iret E dX6_unlikeCells_48 (⟨by rw [if_neg (by assumption), fnd_y hk0 (by omega) (by assumption) (hla (by assumption)), fO_t hk0], rfl, rfl⟩)
  exact lp_6_1 ((48 - 0 : Int).toNat + 1) 0 0 (by omega) (by omega) (sm_0 (by omega)).symm (fun _ => all_0) (Nat.lt_succ_self _)
