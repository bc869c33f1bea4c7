set_option maxHeartbeats 4000000 in
set_option maxRecDepth 100000 in
theorem kX1_add (l : Launch) (G : Gl) (P : Nat → Nat) (V : Vt) (pw : Nat) (hB : BV V) (hpw : pw < 6) (ho : 0 ≤ V 11 0 1 ∧ V 11 0 1 < 4) (hz : 0 ≤ V 11 0 2 ∧ V 11 0 2 ≤ 4) : Met l yX1_add wsX1_add ({ frames := 0, cells := 0, slots := 0, locals := 0 }) (va_Pc [.ref (ad G 11 0), .ref (ad G 0 pw)] (Sg G P V)) (Qk G (mkR G) (fun r P' V' => r = ((P (2 + (kpI V).toNat) : Nat) : Int) ∧ P' = (fun j => if j = 2 + (kpI V).toNat then pw else P j) ∧ BV V' ∧ V' = kpV V)) 0 0 (mem G) := by
  refine z_met (cc := cX1_add) (nL := 4) (ret := (some (.object "SharedStates$World"))) (own := RX1) (by decide +kernel) rfl rfl (Nat.le_of_ble_eq_true rfl) (L := [some (.ref (ad G 11 0)), some (.ref (ad G 0 pw)), none, none]) rfl ?_
  intro X E Er0
  have iX1 : ∀ x ∈ wsX10, x ∈ wsX1_add := by decide +kernel
  have f0 : Cond.fieldLink RX1 17 "SharedStates$History" "oldest" "I" ∈ wsX1_add := by decide +kernel
  have f1 : Cond.fieldLink RX1 21 "SharedStates$History" "size" "I" ∈ wsX1_add := by decide +kernel
  have f2 : Cond.fieldLink RX1 11 "SharedStates$History" "records" "[LSharedStates$World;" ∈ wsX1_add := by decide +kernel
  refine z_aload_n E dX1_add_0 0 rfl rfl ?_
  have hr_1 := hB.g 11 0 1 rfl
  refine z_get E (ci := 1) (N := 3) (C := RX1) (T := TX1) (rfl : vl G 11 0 = true) rfl rfl iX1 1 (by decide) rfl f0 rfl dX1_add_1 ?_
  refine z_aload_n E dX1_add_4 0 rfl rfl ?_
  have hr_2 := hB.g 11 0 2 rfl
  refine z_get E (ci := 1) (N := 3) (C := RX1) (T := TX1) (rfl : vl G 11 0 = true) rfl rfl iX1 2 (by decide) rfl f1 rfl dX1_add_5 ?_
  refine z_iadd E dX1_add_8 ?_
  refine z_iconst E dX1_add_9 ?_
  refine z_irem E dX1_add_10 (by omega) (by omega) (by decide) (by decide) ?_
  refine z_istore_n E dX1_add_11 2 rfl (L' := [some (.ref (ad G 11 0)), some (.ref (ad G 0 pw)), some (.int (iI (((V 11 0 1) + (V 11 0 2)) % 4))), none]) (Nat.le_of_ble_eq_true rfl) rfl ?_
  refine z_aload_n E dX1_add_12 0 rfl rfl ?_
  refine z_get E (ci := 1) (N := 3) (C := RX1) (T := TX1) (rfl : vl G 11 0 = true) rfl rfl iX1 0 (by decide) rfl f2 rfl dX1_add_13 ?_
  refine z_iload_n E dX1_add_16 2 rfl rfl ?_
  refine z_aald E (by omega) (by omega) dX1_add_17 ?_
  refine z_astore_n E dX1_add_18 3 rfl (L' := [some (.ref (ad G 11 0)), some (.ref (ad G 0 pw)), some (.int (iI (((V 11 0 1) + (V 11 0 2)) % 4))), some (.ref (ad G 0 (P (2 + (((V 11 0 1) + (V 11 0 2)) % 4).toNat))))]) (Nat.le_of_ble_eq_true rfl) rfl ?_
  refine z_aload_n E dX1_add_19 0 rfl rfl ?_
  refine z_get E (ci := 1) (N := 3) (C := RX1) (T := TX1) (rfl : vl G 11 0 = true) rfl rfl iX1 0 (by decide) rfl f2 rfl dX1_add_20 ?_
  refine z_iload_n E dX1_add_23 2 rfl rfl ?_
  refine z_aload_n E dX1_add_24 1 rfl rfl ?_
  refine z_aast E (wn := pw) (fun j => if j = 2 + (((V 11 0 1) + (V 11 0 2)) % 4).toNat then pw else P j) hpw (by omega) (by omega) rfl dX1_add_25 ?_
  obtain ⟨P3, hP3⟩ : ∃ Z : Nat → Nat, Z = fun j => if j = 2 + (((V 11 0 1) + (V 11 0 2)) % 4).toNat then pw else P j := ⟨_, rfl⟩
  rw [← hP3]
  refine z_aload_n E dX1_add_26 0 rfl rfl ?_
  refine z_get E (ci := 1) (N := 3) (C := RX1) (T := TX1) (rfl : vl G 11 0 = true) rfl rfl iX1 2 (by decide) rfl f1 rfl dX1_add_27 ?_
  refine z_iconst E dX1_add_30 ?_
  refine z_icmp_ge E 47 dX1_add_31 rfl (by omega) (by omega) (fun c_4 => ?_) (fun c_4 => ?_)
  · skip
    refine z_aload_n E dX1_add_47 0 rfl rfl ?_
    refine z_aload_n E dX1_add_48 0 rfl rfl ?_
    refine z_get E (ci := 1) (N := 3) (C := RX1) (T := TX1) (rfl : vl G 11 0 = true) rfl rfl iX1 1 (by decide) rfl f0 rfl dX1_add_49 ?_
    refine z_iconst E dX1_add_52 ?_
    refine z_iadd E dX1_add_53 ?_
    refine z_iconst E dX1_add_54 ?_
    refine z_irem E dX1_add_55 (by omega) (by omega) (by decide) (by decide) ?_
    refine z_put E (ci := 1) (N := 3) (C := RX1) (T := TX1) (ty := .int) (rfl : vl G 11 0 = true) (updI (V 11 0) 1 (((V 11 0 1) + 1) % 4)) rfl rfl iX1 tyX1 tyX1_ok nmX1 1 (by decide) rfl f0 rfl rfl rfl rfl (Nat.le_of_ble_eq_true rfl) rfl dX1_add_56 ?_
    obtain ⟨V5, hV5⟩ : ∃ Z : Vt, Z = up V 11 0 (updI (V 11 0) 1 (((V 11 0 1) + 1) % 4)) := ⟨_, rfl⟩
    rw [← hV5]
    have hB5 : BV V5 := hV5 ▸ BV_up hB (by intro _; omega)
    refine z_aload_n E dX1_add_59 3 rfl rfl ?_
    exact z_aret E Er0 (wn := (P (2 + (((V 11 0 1) + (V 11 0 2)) % 4).toNat))) dX1_add_60 (⟨rfl, hP3, hB5, by unfold kpV; first | (rw [if_pos (by assumption)]; exact hV5) | (rw [if_neg (by omega)]; exact hV5)⟩)
  · skip
    refine z_aload_n E dX1_add_34 0 rfl rfl ?_
    refine z_dup E dX1_add_35 rfl ?_
    refine z_get E (ci := 1) (N := 3) (C := RX1) (T := TX1) (rfl : vl G 11 0 = true) rfl rfl iX1 2 (by decide) rfl f1 rfl dX1_add_36 ?_
    refine z_iconst E dX1_add_39 ?_
    refine z_iadd E dX1_add_40 ?_
    refine z_put E (ci := 1) (N := 3) (C := RX1) (T := TX1) (ty := .int) (rfl : vl G 11 0 = true) (updI (V 11 0) 2 ((V 11 0 2) + 1)) rfl rfl iX1 tyX1 tyX1_ok nmX1 2 (by decide) rfl f1 rfl rfl rfl rfl (Nat.le_of_ble_eq_true rfl) rfl dX1_add_41 ?_
    obtain ⟨V6, hV6⟩ : ∃ Z : Vt, Z = up V 11 0 (updI (V 11 0) 2 ((V 11 0 2) + 1)) := ⟨_, rfl⟩
    rw [← hV6]
    have hB6 : BV V6 := hV6 ▸ BV_up hB (by intro _; omega)
    refine z_goto E 59 dX1_add_44 rfl ?_
    refine z_aload_n E dX1_add_59 3 rfl rfl ?_
    exact z_aret E Er0 (wn := (P (2 + (((V 11 0 1) + (V 11 0 2)) % 4).toNat))) dX1_add_60 (⟨rfl, hP3, hB6, by unfold kpV; first | (rw [if_pos (by assumption)]; exact hV6) | (rw [if_neg (by omega)]; exact hV6)⟩)

set_option maxHeartbeats 4000000 in
set_option maxRecDepth 100000 in
theorem kX5_startTrial (l : Launch) (G : Gl) (P : Nat → Nat) (V : Vt) (hw : P 0 < 6) (hB : BV V) (hw1 : P 1 < 6) (huw : P 0 ≠ P 1) : Met l yX5_startTrial wsX5_startTrial ({ frames := 3, cells := 0, slots := 0, locals := 102 }) (va_Pc [.ref (ad G 10 0)] (Sg G P V)) (Qk G (mkR G) (fun r P' V' => r = ((P 1 : Nat) : Int) ∧ P' = P ∧ BV V' ∧ V' = cpW V (P 1) (P 0))) 0 0 (mem G) := by
  refine z_met (cc := cX5_startTrial) (nL := 1) (ret := (some (.object "SharedStates$World"))) (own := RX5) (by decide +kernel) rfl rfl (Nat.le_of_ble_eq_true rfl) (L := [some (.ref (ad G 10 0))]) rfl ?_
  intro X E Er0
  have iX5 : ∀ x ∈ wsX50, x ∈ wsX5_startTrial := by decide +kernel
  have f0 : Cond.fieldLink RX5 16 "SharedStates" "trial" "LSharedStates$World;" ∈ wsX5_startTrial := by decide +kernel
  have f1 : Cond.fieldLink RX5 10 "SharedStates" "world" "LSharedStates$World;" ∈ wsX5_startTrial := by decide +kernel
  refine z_aload_n E dX5_startTrial_0 0 rfl rfl ?_
  refine z_get E (ci := 5) (N := 4) (C := RX5) (T := TX5) (rfl : vl G 10 0 = true) rfl rfl iX5 1 (by decide) rfl f0 rfl dX5_startTrial_1 ?_
  refine z_aload_n E dX5_startTrial_4 0 rfl rfl ?_
  refine z_get E (ci := 5) (N := 4) (C := RX5) (T := TX5) (rfl : vl G 10 0 = true) rfl rfl iX5 0 (by decide) rfl f1 rfl dX5_startTrial_5 ?_
  refine z_callV E (ci := 4) (N := 6) (C := RX4) (T := TX4) (n := 1) (st := []) (vl_w (by decide) hw1) rfl rfl [.ref (ad G 0 (P 0))] (kX4_becomeLike l G P V (P 1) (P 0) hw1 hB hw huw) gX5_startTrial_X4_becomeLike rfl ⟨rfl, rfl⟩ (by decide +kernel) ⟨Nat.le_of_ble_eq_true rfl, Nat.le_of_ble_eq_true rfl⟩ rfl rfl (Nat.le_of_ble_eq_true rfl) rfl dX5_startTrial_8 (z_exV (fun P_1 V_1 h_1 => ?_))
  obtain ⟨hP_1, hB_1, h_1⟩ := h_1
  rw [hP_1]
  have w_a := h_1
  refine z_aload_n E dX5_startTrial_11 0 rfl rfl ?_
  refine z_get E (ci := 5) (N := 4) (C := RX5) (T := TX5) (rfl : vl G 10 0 = true) rfl rfl iX5 1 (by decide) rfl f0 rfl dX5_startTrial_12 ?_
  exact z_aret E Er0 (wn := (P 1)) dX5_startTrial_15 (⟨rfl, rfl, hB_1, w_a⟩)

set_option maxHeartbeats 4000000 in
set_option maxRecDepth 100000 in
theorem kX5_keepTrial (l : Launch) (G : Gl) (P : Nat → Nat) (V : Vt) (answer : Int) (hw : P 0 < 6) (hB : BV V) (hw1 : P 1 < 6) (ho : 0 ≤ V 11 0 1 ∧ V 11 0 1 < 4) (hz : 0 ≤ V 11 0 2 ∧ V 11 0 2 ≤ 4) (a1 : inR answer) : Met l yX5_keepTrial wsX5_keepTrial ({ frames := 1, cells := 0, slots := 0, locals := 23 }) (va_Pc [.ref (ad G 10 0), .int (iI answer)] (Sg G P V)) (Qk G mkI (fun r P' V' => BV V' ∧ r = answer ∧ KP answer P V P' V')) 0 0 (mem G) := by
  refine z_met (cc := cX5_keepTrial) (nL := 3) (ret := (some .int)) (own := RX5) (by decide +kernel) rfl rfl (Nat.le_of_ble_eq_true rfl) (L := [some (.ref (ad G 10 0)), some (.int (iI answer)), none]) rfl ?_
  intro X E Er0
  have iX5 : ∀ x ∈ wsX50, x ∈ wsX5_keepTrial := by decide +kernel
  have f0 : Cond.fieldLink RX5 10 "SharedStates" "world" "LSharedStates$World;" ∈ wsX5_keepTrial := by decide +kernel
  have f1 : Cond.fieldLink RX5 16 "SharedStates" "trial" "LSharedStates$World;" ∈ wsX5_keepTrial := by decide +kernel
  have f2 : Cond.fieldLink RX5 22 "SharedStates" "history" "LSharedStates$History;" ∈ wsX5_keepTrial := by decide +kernel
  refine z_iload_n E dX5_keepTrial_0 1 rfl rfl ?_
  refine z_if_lt E 29 dX5_keepTrial_1 rfl (by omega) (fun c_1 => ?_) (fun c_1 => ?_)
  · skip
    refine z_iload_n E dX5_keepTrial_29 1 rfl rfl ?_
    exact z_iret E Er0 dX5_keepTrial_30 (by first | exact ⟨hB, rfl, Or.inl ⟨by assumption, rfl, rfl⟩⟩ | exact ⟨hB, rfl, Or.inr ⟨by assumption, kp_eq {ph0} w_P w_r {ph1}, w_a⟩⟩)
  · skip
    refine z_aload_n E dX5_keepTrial_4 0 rfl rfl ?_
    refine z_get E (ci := 5) (N := 4) (C := RX5) (T := TX5) (rfl : vl G 10 0 = true) rfl rfl iX5 0 (by decide) rfl f0 rfl dX5_keepTrial_5 ?_
    refine z_astore_n E dX5_keepTrial_8 2 rfl (L' := [some (.ref (ad G 10 0)), some (.int (iI answer)), some (.ref (ad G 0 (P 0)))]) (Nat.le_of_ble_eq_true rfl) rfl ?_
    refine z_aload_n E dX5_keepTrial_9 0 rfl rfl ?_
    refine z_aload_n E dX5_keepTrial_10 0 rfl rfl ?_
    refine z_get E (ci := 5) (N := 4) (C := RX5) (T := TX5) (rfl : vl G 10 0 = true) rfl rfl iX5 1 (by decide) rfl f1 rfl dX5_keepTrial_11 ?_
    refine z_putP E (wn := (P 1)) (fun j => if j = 0 then (P 1) else P j) iX5 0 (by decide) rfl f0 rfl dX5_keepTrial_14 ?_
    obtain ⟨P2, hP2⟩ : ∃ Z : Nat → Nat, Z = fun j => if j = 0 then (P 1) else P j := ⟨_, rfl⟩
    rw [← hP2]
    refine z_aload_n E dX5_keepTrial_17 0 rfl rfl ?_
    refine z_aload_n E dX5_keepTrial_18 0 rfl rfl ?_
    refine z_get E (ci := 5) (N := 4) (C := RX5) (T := TX5) (rfl : vl G 10 0 = true) rfl rfl iX5 2 (by decide) rfl f2 rfl dX5_keepTrial_19 ?_
    refine z_aload_n E dX5_keepTrial_22 2 rfl rfl ?_
    refine z_callV E (ci := 1) (N := 3) (C := RX1) (T := TX1) (n := 1) (st := [.ref (ad G 10 0)]) (rfl : vl G 11 0 = true) rfl rfl [.ref (ad G 0 (P 0))] (kX1_add l G P2 V (P 0) hB (by omega) (by omega) (by omega)) gX5_keepTrial_X1_add rfl ⟨rfl, rfl⟩ (by decide +kernel) ⟨Nat.le_of_ble_eq_true rfl, Nat.le_of_ble_eq_true rfl⟩ rfl rfl (Nat.le_of_ble_eq_true rfl) rfl dX5_keepTrial_23 (z_exR (fun r_3 P_3 V_3 h_3 => ?_))
    obtain ⟨hr_3, hP_3, hB_3, h_3⟩ := h_3
    have w_a := h_3
    have w_P := hP_3
    have w_r := hr_3
    refine z_putP E (wn := r_3.toNat) (fun j => if j = 1 then r_3.toNat else P_3 j) iX5 1 (by decide) rfl f1 rfl dX5_keepTrial_26 ?_
    obtain ⟨P4, hP4⟩ : ∃ Z : Nat → Nat, Z = fun j => if j = 1 then r_3.toNat else P_3 j := ⟨_, rfl⟩
    rw [← hP4]
    refine z_iload_n E dX5_keepTrial_29 1 rfl rfl ?_
    exact z_iret E Er0 dX5_keepTrial_30 (by first | exact ⟨hB, rfl, Or.inl ⟨by assumption, rfl, rfl⟩⟩ | exact ⟨hB_3, rfl, Or.inr ⟨by assumption, kp_eq hP2 w_P w_r hP4, w_a⟩⟩)

set_option maxHeartbeats 4000000 in
set_option maxRecDepth 100000 in
theorem kX5_write (l : Launch) (G : Gl) (P : Nat → Nat) (V : Vt) (branch : Int) (cell : Int) (value : Int) (hw : P 0 < 6) (hB : BV V) (hn0 : 0 ≤ V 4 (P 0) 3) (hn1 : V 4 (P 0) 3 ≤ 16) (hL : ∀ j, 0 ≤ V 7 (P 0) j ∧ V 7 (P 0) j < 40) (hU : ∀ j, 0 ≤ V 3 (P 0) j ∧ V 3 (P 0) j ≤ 500) (h5 : inR (V 4 (P 0) 4 + 1)) (hcm : ∀ a b, 0 ≤ a → a < V 4 (P 0) 3 → 0 ≤ b → b < V 4 (P 0) 3 → 0 ≤ cmS (pS (V 4 (P 0) 3) (V 5 (P 0)) (V 6 (P 0))) 32 a b ∧ cmS (pS (V 4 (P 0) 3) (V 5 (P 0)) (V 6 (P 0))) 32 a b < V 4 (P 0) 3) (hw1 : P 1 < 6) (huw : P 0 ≠ P 1) (ho : 0 ≤ V 11 0 1 ∧ V 11 0 1 < 4) (hz : 0 ≤ V 11 0 2 ∧ V 11 0 2 ≤ 4) (a1 : inR branch) (a2 : inR cell) (a3 : inR value) : Met l yX5_write wsX5_write ({ frames := 4, cells := 0, slots := 0, locals := 135 }) (va_Pc [.ref (ad G 10 0), .int (iI branch), .int (iI cell), .int (iI value)] (Sg G P V)) (Qk G mkI (fun r P' V' => BV V' ∧ ∃ Vt, FR (P 1) (cpW V (P 1) (P 0)) Vt ∧ fillQ (cpW V (P 1) (P 0)) (P 1) branch cell 1 value r Vt ∧ KP r P Vt P' V')) 0 0 (mem G) := by
  refine z_met (cc := cX5_write) (nL := 4) (ret := (some .int)) (own := RX5) (by decide +kernel) rfl rfl (Nat.le_of_ble_eq_true rfl) (L := [some (.ref (ad G 10 0)), some (.int (iI branch)), some (.int (iI cell)), some (.int (iI value))]) rfl ?_
  intro X E Er0
  refine z_aload_n E dX5_write_0 0 rfl rfl ?_
  refine z_aload_n E dX5_write_1 0 rfl rfl ?_
  refine z_callV E (ci := 5) (N := 4) (C := RX5) (T := TX5) (n := 0) (st := [.ref (ad G 10 0)]) (rfl : vl G 10 0 = true) rfl rfl [] (kX5_startTrial l G P V  (by omega) hB hw1 huw) gX5_write_X5_startTrial rfl ⟨rfl, rfl⟩ (by decide +kernel) ⟨Nat.le_of_ble_eq_true rfl, Nat.le_of_ble_eq_true rfl⟩ rfl rfl (Nat.le_of_ble_eq_true rfl) rfl dX5_write_2 (z_exR (fun r_1 P_1 V_1 h_1 => ?_))
  obtain ⟨hr_1, hP_1, hB_1, h_1⟩ := h_1
  rw [hP_1, hr_1, Int.toNat_natCast]
  have k0 : V_1 0 (P 1) = V 0 (P 0) := by rw [h_1]; exact cpW_s (by decide)
  have k3 : V_1 3 (P 1) = V 3 (P 0) := by rw [h_1]; exact cpW_s (by decide)
  have k4 : V_1 4 (P 1) = V 4 (P 0) := by rw [h_1]; exact cpW_s (by decide)
  have k5 : V_1 5 (P 1) = V 5 (P 0) := by rw [h_1]; exact cpW_s (by decide)
  have k6 : V_1 6 (P 1) = V 6 (P 0) := by rw [h_1]; exact cpW_s (by decide)
  have k7 : V_1 7 (P 1) = V 7 (P 0) := by rw [h_1]; exact cpW_s (by decide)
  have k8 : V_1 8 (P 1) = V 8 (P 0) := by rw [h_1]; exact cpW_s (by decide)
  have t_0 : 0 ≤ V_1 4 (P 1) 3 := by rw [k4]; exact hn0
  have t_1 : V_1 4 (P 1) 3 ≤ 16 := by rw [k4]; exact hn1
  have t_L : ∀ j, 0 ≤ V_1 7 (P 1) j ∧ V_1 7 (P 1) j < 40 := by rw [k7]; exact hL
  have t_U : ∀ j, 0 ≤ V_1 3 (P 1) j ∧ V_1 3 (P 1) j ≤ 500 := by rw [k3]; exact hU
  have t_5 : inR (V_1 4 (P 1) 4 + 1) := by rw [k4]; exact h5
  have t_c : ∀ a b, 0 ≤ a → a < V_1 4 (P 1) 3 → 0 ≤ b → b < V_1 4 (P 1) 3 → 0 ≤ cmS (pS (V_1 4 (P 1) 3) (V_1 5 (P 1)) (V_1 6 (P 1))) 32 a b ∧ cmS (pS (V_1 4 (P 1) 3) (V_1 5 (P 1)) (V_1 6 (P 1))) 32 a b < V_1 4 (P 1) 3 := by rw [k4, k5, k6]; exact hcm
  have k11 : V_1 11 0 = V 11 0 := by rw [h_1]; exact cpW_9 (by decide)
  have w_s := h_1
  refine z_iload_n E dX5_write_5 1 rfl rfl ?_
  refine z_iload_n E dX5_write_6 2 rfl rfl ?_
  refine z_iconst E dX5_write_7 ?_
  refine z_iload_n E dX5_write_8 3 rfl rfl ?_
  refine z_callV E (ci := 4) (N := 6) (C := RX4) (T := TX4) (n := 4) (st := [.ref (ad G 10 0)]) (vl_w (by decide) hw1) rfl rfl [.int (iI branch), .int (iI cell), .int (iI 1), .int (iI value)] (kX4_fillCells l G P V_1 (P 1) branch cell 1 value hw1 hB_1 t_0 t_1 t_L t_U t_5 (by omega) (by omega) (by omega) (by omega)) gX5_write_X4_fillCells rfl ⟨rfl, rfl⟩ (by decide +kernel) ⟨Nat.le_of_ble_eq_true rfl, Nat.le_of_ble_eq_true rfl⟩ rfl rfl (Nat.le_of_ble_eq_true rfl) rfl dX5_write_9 (z_exI (fun r_2 P_2 V_2 h_2 => ?_))
  obtain ⟨hP_2, hB_2, hR_2, hF_2, h_2⟩ := h_2
  rw [hP_2]
  have w_q := h_2
  have kf := hF_2
  have kh : V_2 11 0 = V 11 0 := (kf 11 0 (by omega)).trans k11
  have kho : 0 ≤ V_2 11 0 1 ∧ V_2 11 0 1 < 4 := by rw [kh]; exact ho
  have khz : 0 ≤ V_2 11 0 2 ∧ V_2 11 0 2 ≤ 4 := by rw [kh]; exact hz
  have kR : inR r_2 := hR_2
  refine z_callV E (ci := 5) (N := 4) (C := RX5) (T := TX5) (n := 1) (st := []) (rfl : vl G 10 0 = true) rfl rfl [.int (iI r_2)] (kX5_keepTrial l G P V_2 r_2 (by omega) hB_2 (by omega) kho khz kR) gX5_write_X5_keepTrial rfl ⟨rfl, rfl⟩ (by decide +kernel) ⟨Nat.le_of_ble_eq_true rfl, Nat.le_of_ble_eq_true rfl⟩ rfl rfl (Nat.le_of_ble_eq_true rfl) rfl dX5_write_12 (z_exI (fun r_3 P_3 V_3 h_3 => ?_))
  obtain ⟨hB_3, hr_3, h_3⟩ := h_3
  have w_k := h_3
  have w_r := hr_3
  exact z_iret E Er0 dX5_write_15 (by rw [w_r]; exact ⟨hB_3, _, w_s ▸ kf, w_s ▸ w_q, w_k⟩)

set_option maxHeartbeats 4000000 in
set_option maxRecDepth 100000 in
theorem kX5_fill (l : Launch) (G : Gl) (P : Nat → Nat) (V : Vt) (branch : Int) (cell : Int) (many : Int) (value : Int) (hw : P 0 < 6) (hB : BV V) (hn0 : 0 ≤ V 4 (P 0) 3) (hn1 : V 4 (P 0) 3 ≤ 16) (hL : ∀ j, 0 ≤ V 7 (P 0) j ∧ V 7 (P 0) j < 40) (hU : ∀ j, 0 ≤ V 3 (P 0) j ∧ V 3 (P 0) j ≤ 500) (h5 : inR (V 4 (P 0) 4 + 1)) (hcm : ∀ a b, 0 ≤ a → a < V 4 (P 0) 3 → 0 ≤ b → b < V 4 (P 0) 3 → 0 ≤ cmS (pS (V 4 (P 0) 3) (V 5 (P 0)) (V 6 (P 0))) 32 a b ∧ cmS (pS (V 4 (P 0) 3) (V 5 (P 0)) (V 6 (P 0))) 32 a b < V 4 (P 0) 3) (hw1 : P 1 < 6) (huw : P 0 ≠ P 1) (ho : 0 ≤ V 11 0 1 ∧ V 11 0 1 < 4) (hz : 0 ≤ V 11 0 2 ∧ V 11 0 2 ≤ 4) (a1 : inR branch) (a2 : inR cell) (a3 : inR many) (a4 : inR value) : Met l yX5_fill wsX5_fill ({ frames := 4, cells := 0, slots := 0, locals := 135 }) (va_Pc [.ref (ad G 10 0), .int (iI branch), .int (iI cell), .int (iI many), .int (iI value)] (Sg G P V)) (Qk G mkI (fun r P' V' => BV V' ∧ ∃ Vt, FR (P 1) (cpW V (P 1) (P 0)) Vt ∧ fillQ (cpW V (P 1) (P 0)) (P 1) branch cell many value r Vt ∧ KP r P Vt P' V')) 0 0 (mem G) := by
  refine z_met (cc := cX5_fill) (nL := 5) (ret := (some .int)) (own := RX5) (by decide +kernel) rfl rfl (Nat.le_of_ble_eq_true rfl) (L := [some (.ref (ad G 10 0)), some (.int (iI branch)), some (.int (iI cell)), some (.int (iI many)), some (.int (iI value))]) rfl ?_
  intro X E Er0
  refine z_aload_n E dX5_fill_0 0 rfl rfl ?_
  refine z_aload_n E dX5_fill_1 0 rfl rfl ?_
  refine z_callV E (ci := 5) (N := 4) (C := RX5) (T := TX5) (n := 0) (st := [.ref (ad G 10 0)]) (rfl : vl G 10 0 = true) rfl rfl [] (kX5_startTrial l G P V  (by omega) hB hw1 huw) gX5_fill_X5_startTrial rfl ⟨rfl, rfl⟩ (by decide +kernel) ⟨Nat.le_of_ble_eq_true rfl, Nat.le_of_ble_eq_true rfl⟩ rfl rfl (Nat.le_of_ble_eq_true rfl) rfl dX5_fill_2 (z_exR (fun r_1 P_1 V_1 h_1 => ?_))
  obtain ⟨hr_1, hP_1, hB_1, h_1⟩ := h_1
  rw [hP_1, hr_1, Int.toNat_natCast]
  have k0 : V_1 0 (P 1) = V 0 (P 0) := by rw [h_1]; exact cpW_s (by decide)
  have k3 : V_1 3 (P 1) = V 3 (P 0) := by rw [h_1]; exact cpW_s (by decide)
  have k4 : V_1 4 (P 1) = V 4 (P 0) := by rw [h_1]; exact cpW_s (by decide)
  have k5 : V_1 5 (P 1) = V 5 (P 0) := by rw [h_1]; exact cpW_s (by decide)
  have k6 : V_1 6 (P 1) = V 6 (P 0) := by rw [h_1]; exact cpW_s (by decide)
  have k7 : V_1 7 (P 1) = V 7 (P 0) := by rw [h_1]; exact cpW_s (by decide)
  have k8 : V_1 8 (P 1) = V 8 (P 0) := by rw [h_1]; exact cpW_s (by decide)
  have t_0 : 0 ≤ V_1 4 (P 1) 3 := by rw [k4]; exact hn0
  have t_1 : V_1 4 (P 1) 3 ≤ 16 := by rw [k4]; exact hn1
  have t_L : ∀ j, 0 ≤ V_1 7 (P 1) j ∧ V_1 7 (P 1) j < 40 := by rw [k7]; exact hL
  have t_U : ∀ j, 0 ≤ V_1 3 (P 1) j ∧ V_1 3 (P 1) j ≤ 500 := by rw [k3]; exact hU
  have t_5 : inR (V_1 4 (P 1) 4 + 1) := by rw [k4]; exact h5
  have t_c : ∀ a b, 0 ≤ a → a < V_1 4 (P 1) 3 → 0 ≤ b → b < V_1 4 (P 1) 3 → 0 ≤ cmS (pS (V_1 4 (P 1) 3) (V_1 5 (P 1)) (V_1 6 (P 1))) 32 a b ∧ cmS (pS (V_1 4 (P 1) 3) (V_1 5 (P 1)) (V_1 6 (P 1))) 32 a b < V_1 4 (P 1) 3 := by rw [k4, k5, k6]; exact hcm
  have k11 : V_1 11 0 = V 11 0 := by rw [h_1]; exact cpW_9 (by decide)
  have w_s := h_1
  refine z_iload_n E dX5_fill_5 1 rfl rfl ?_
  refine z_iload_n E dX5_fill_6 2 rfl rfl ?_
  refine z_iload_n E dX5_fill_7 3 rfl rfl ?_
  refine z_iload E dX5_fill_8 rfl ?_
  refine z_callV E (ci := 4) (N := 6) (C := RX4) (T := TX4) (n := 4) (st := [.ref (ad G 10 0)]) (vl_w (by decide) hw1) rfl rfl [.int (iI branch), .int (iI cell), .int (iI many), .int (iI value)] (kX4_fillCells l G P V_1 (P 1) branch cell many value hw1 hB_1 t_0 t_1 t_L t_U t_5 (by omega) (by omega) (by omega) (by omega)) gX5_fill_X4_fillCells rfl ⟨rfl, rfl⟩ (by decide +kernel) ⟨Nat.le_of_ble_eq_true rfl, Nat.le_of_ble_eq_true rfl⟩ rfl rfl (Nat.le_of_ble_eq_true rfl) rfl dX5_fill_10 (z_exI (fun r_2 P_2 V_2 h_2 => ?_))
  obtain ⟨hP_2, hB_2, hR_2, hF_2, h_2⟩ := h_2
  rw [hP_2]
  have w_q := h_2
  have kf := hF_2
  have kh : V_2 11 0 = V 11 0 := (kf 11 0 (by omega)).trans k11
  have kho : 0 ≤ V_2 11 0 1 ∧ V_2 11 0 1 < 4 := by rw [kh]; exact ho
  have khz : 0 ≤ V_2 11 0 2 ∧ V_2 11 0 2 ≤ 4 := by rw [kh]; exact hz
  have kR : inR r_2 := hR_2
  refine z_callV E (ci := 5) (N := 4) (C := RX5) (T := TX5) (n := 1) (st := []) (rfl : vl G 10 0 = true) rfl rfl [.int (iI r_2)] (kX5_keepTrial l G P V_2 r_2 (by omega) hB_2 (by omega) kho khz kR) gX5_fill_X5_keepTrial rfl ⟨rfl, rfl⟩ (by decide +kernel) ⟨Nat.le_of_ble_eq_true rfl, Nat.le_of_ble_eq_true rfl⟩ rfl rfl (Nat.le_of_ble_eq_true rfl) rfl dX5_fill_13 (z_exI (fun r_3 P_3 V_3 h_3 => ?_))
  obtain ⟨hB_3, hr_3, h_3⟩ := h_3
  have w_k := h_3
  have w_r := hr_3
  exact z_iret E Er0 dX5_fill_16 (by rw [w_r]; exact ⟨hB_3, _, w_s ▸ kf, w_s ▸ w_q, w_k⟩)

set_option maxHeartbeats 4000000 in
set_option maxRecDepth 100000 in
theorem kX5_copy (l : Launch) (G : Gl) (P : Nat → Nat) (V : Vt) (branch : Int) (state : Int) (src : Int) (dst : Int) (many : Int) (hw : P 0 < 6) (hB : BV V) (hn0 : 0 ≤ V 4 (P 0) 3) (hn1 : V 4 (P 0) 3 ≤ 16) (hL : ∀ j, 0 ≤ V 7 (P 0) j ∧ V 7 (P 0) j < 40) (hU : ∀ j, 0 ≤ V 3 (P 0) j ∧ V 3 (P 0) j ≤ 500) (h5 : inR (V 4 (P 0) 4 + 1)) (hcm : ∀ a b, 0 ≤ a → a < V 4 (P 0) 3 → 0 ≤ b → b < V 4 (P 0) 3 → 0 ≤ cmS (pS (V 4 (P 0) 3) (V 5 (P 0)) (V 6 (P 0))) 32 a b ∧ cmS (pS (V 4 (P 0) 3) (V 5 (P 0)) (V 6 (P 0))) 32 a b < V 4 (P 0) 3) (hw1 : P 1 < 6) (huw : P 0 ≠ P 1) (ho : 0 ≤ V 11 0 1 ∧ V 11 0 1 < 4) (hz : 0 ≤ V 11 0 2 ∧ V 11 0 2 ≤ 4) (a1 : inR branch) (a2 : inR state) (a3 : inR src) (a4 : inR dst) (a5 : inR many) : Met l yX5_copy wsX5_copy ({ frames := 4, cells := 0, slots := 0, locals := 137 }) (va_Pc [.ref (ad G 10 0), .int (iI branch), .int (iI state), .int (iI src), .int (iI dst), .int (iI many)] (Sg G P V)) (Qk G mkI (fun r P' V' => BV V' ∧ ∃ Vt, FR (P 1) (cpW V (P 1) (P 0)) Vt ∧ copyQ (cpW V (P 1) (P 0)) (P 1) branch state src dst many r Vt ∧ KP r P Vt P' V')) 0 0 (mem G) := by
  refine z_met (cc := cX5_copy) (nL := 6) (ret := (some .int)) (own := RX5) (by decide +kernel) rfl rfl (Nat.le_of_ble_eq_true rfl) (L := [some (.ref (ad G 10 0)), some (.int (iI branch)), some (.int (iI state)), some (.int (iI src)), some (.int (iI dst)), some (.int (iI many))]) rfl ?_
  intro X E Er0
  refine z_aload_n E dX5_copy_0 0 rfl rfl ?_
  refine z_aload_n E dX5_copy_1 0 rfl rfl ?_
  refine z_callV E (ci := 5) (N := 4) (C := RX5) (T := TX5) (n := 0) (st := [.ref (ad G 10 0)]) (rfl : vl G 10 0 = true) rfl rfl [] (kX5_startTrial l G P V  (by omega) hB hw1 huw) gX5_copy_X5_startTrial rfl ⟨rfl, rfl⟩ (by decide +kernel) ⟨Nat.le_of_ble_eq_true rfl, Nat.le_of_ble_eq_true rfl⟩ rfl rfl (Nat.le_of_ble_eq_true rfl) rfl dX5_copy_2 (z_exR (fun r_1 P_1 V_1 h_1 => ?_))
  obtain ⟨hr_1, hP_1, hB_1, h_1⟩ := h_1
  rw [hP_1, hr_1, Int.toNat_natCast]
  have k0 : V_1 0 (P 1) = V 0 (P 0) := by rw [h_1]; exact cpW_s (by decide)
  have k3 : V_1 3 (P 1) = V 3 (P 0) := by rw [h_1]; exact cpW_s (by decide)
  have k4 : V_1 4 (P 1) = V 4 (P 0) := by rw [h_1]; exact cpW_s (by decide)
  have k5 : V_1 5 (P 1) = V 5 (P 0) := by rw [h_1]; exact cpW_s (by decide)
  have k6 : V_1 6 (P 1) = V 6 (P 0) := by rw [h_1]; exact cpW_s (by decide)
  have k7 : V_1 7 (P 1) = V 7 (P 0) := by rw [h_1]; exact cpW_s (by decide)
  have k8 : V_1 8 (P 1) = V 8 (P 0) := by rw [h_1]; exact cpW_s (by decide)
  have t_0 : 0 ≤ V_1 4 (P 1) 3 := by rw [k4]; exact hn0
  have t_1 : V_1 4 (P 1) 3 ≤ 16 := by rw [k4]; exact hn1
  have t_L : ∀ j, 0 ≤ V_1 7 (P 1) j ∧ V_1 7 (P 1) j < 40 := by rw [k7]; exact hL
  have t_U : ∀ j, 0 ≤ V_1 3 (P 1) j ∧ V_1 3 (P 1) j ≤ 500 := by rw [k3]; exact hU
  have t_5 : inR (V_1 4 (P 1) 4 + 1) := by rw [k4]; exact h5
  have t_c : ∀ a b, 0 ≤ a → a < V_1 4 (P 1) 3 → 0 ≤ b → b < V_1 4 (P 1) 3 → 0 ≤ cmS (pS (V_1 4 (P 1) 3) (V_1 5 (P 1)) (V_1 6 (P 1))) 32 a b ∧ cmS (pS (V_1 4 (P 1) 3) (V_1 5 (P 1)) (V_1 6 (P 1))) 32 a b < V_1 4 (P 1) 3 := by rw [k4, k5, k6]; exact hcm
  have k11 : V_1 11 0 = V 11 0 := by rw [h_1]; exact cpW_9 (by decide)
  have w_s := h_1
  refine z_iload_n E dX5_copy_5 1 rfl rfl ?_
  refine z_iload_n E dX5_copy_6 2 rfl rfl ?_
  refine z_iload_n E dX5_copy_7 3 rfl rfl ?_
  refine z_iload E dX5_copy_8 rfl ?_
  refine z_iload E dX5_copy_10 rfl ?_
  refine z_callV E (ci := 4) (N := 6) (C := RX4) (T := TX4) (n := 5) (st := [.ref (ad G 10 0)]) (vl_w (by decide) hw1) rfl rfl [.int (iI branch), .int (iI state), .int (iI src), .int (iI dst), .int (iI many)] (kX4_copyCells l G P V_1 (P 1) branch state src dst many hw1 hB_1 t_0 t_1 t_L t_U t_5 (by omega) (by omega) (by omega) (by omega) (by omega)) gX5_copy_X4_copyCells rfl ⟨rfl, rfl⟩ (by decide +kernel) ⟨Nat.le_of_ble_eq_true rfl, Nat.le_of_ble_eq_true rfl⟩ rfl rfl (Nat.le_of_ble_eq_true rfl) rfl dX5_copy_12 (z_exI (fun r_2 P_2 V_2 h_2 => ?_))
  obtain ⟨hP_2, hB_2, hR_2, hF_2, h_2⟩ := h_2
  rw [hP_2]
  have w_q := h_2
  have kf := hF_2
  have kh : V_2 11 0 = V 11 0 := (kf 11 0 (by omega)).trans k11
  have kho : 0 ≤ V_2 11 0 1 ∧ V_2 11 0 1 < 4 := by rw [kh]; exact ho
  have khz : 0 ≤ V_2 11 0 2 ∧ V_2 11 0 2 ≤ 4 := by rw [kh]; exact hz
  have kR : inR r_2 := hR_2
  refine z_callV E (ci := 5) (N := 4) (C := RX5) (T := TX5) (n := 1) (st := []) (rfl : vl G 10 0 = true) rfl rfl [.int (iI r_2)] (kX5_keepTrial l G P V_2 r_2 (by omega) hB_2 (by omega) kho khz kR) gX5_copy_X5_keepTrial rfl ⟨rfl, rfl⟩ (by decide +kernel) ⟨Nat.le_of_ble_eq_true rfl, Nat.le_of_ble_eq_true rfl⟩ rfl rfl (Nat.le_of_ble_eq_true rfl) rfl dX5_copy_15 (z_exI (fun r_3 P_3 V_3 h_3 => ?_))
  obtain ⟨hB_3, hr_3, h_3⟩ := h_3
  have w_k := h_3
  have w_r := hr_3
  exact z_iret E Er0 dX5_copy_18 (by rw [w_r]; exact ⟨hB_3, _, w_s ▸ kf, w_s ▸ w_q, w_k⟩)

set_option maxHeartbeats 4000000 in
set_option maxRecDepth 100000 in
theorem kX5_merge (l : Launch) (G : Gl) (P : Nat → Nat) (V : Vt) (branch : Int) (state : Int) (hw : P 0 < 6) (hB : BV V) (hn0 : 0 ≤ V 4 (P 0) 3) (hn1 : V 4 (P 0) 3 ≤ 16) (hL : ∀ j, 0 ≤ V 7 (P 0) j ∧ V 7 (P 0) j < 40) (hU : ∀ j, 0 ≤ V 3 (P 0) j ∧ V 3 (P 0) j ≤ 500) (h5 : inR (V 4 (P 0) 4 + 1)) (hcm : ∀ a b, 0 ≤ a → a < V 4 (P 0) 3 → 0 ≤ b → b < V 4 (P 0) 3 → 0 ≤ cmS (pS (V 4 (P 0) 3) (V 5 (P 0)) (V 6 (P 0))) 32 a b ∧ cmS (pS (V 4 (P 0) 3) (V 5 (P 0)) (V 6 (P 0))) 32 a b < V 4 (P 0) 3) (hw1 : P 1 < 6) (huw : P 0 ≠ P 1) (ho : 0 ≤ V 11 0 1 ∧ V 11 0 1 < 4) (hz : 0 ≤ V 11 0 2 ∧ V 11 0 2 ≤ 4) (a1 : inR branch) (a2 : inR state) : Met l yX5_merge wsX5_merge ({ frames := 4, cells := 0, slots := 0, locals := 135 }) (va_Pc [.ref (ad G 10 0), .int (iI branch), .int (iI state)] (Sg G P V)) (Qk G mkI (fun r P' V' => BV V' ∧ ∃ Vt, FR (P 1) (cpW V (P 1) (P 0)) Vt ∧ mergeQ (cpW V (P 1) (P 0)) (P 1) branch state r Vt ∧ KP r P Vt P' V')) 0 0 (mem G) := by
  refine z_met (cc := cX5_merge) (nL := 3) (ret := (some .int)) (own := RX5) (by decide +kernel) rfl rfl (Nat.le_of_ble_eq_true rfl) (L := [some (.ref (ad G 10 0)), some (.int (iI branch)), some (.int (iI state))]) rfl ?_
  intro X E Er0
  refine z_aload_n E dX5_merge_0 0 rfl rfl ?_
  refine z_aload_n E dX5_merge_1 0 rfl rfl ?_
  refine z_callV E (ci := 5) (N := 4) (C := RX5) (T := TX5) (n := 0) (st := [.ref (ad G 10 0)]) (rfl : vl G 10 0 = true) rfl rfl [] (kX5_startTrial l G P V  (by omega) hB hw1 huw) gX5_merge_X5_startTrial rfl ⟨rfl, rfl⟩ (by decide +kernel) ⟨Nat.le_of_ble_eq_true rfl, Nat.le_of_ble_eq_true rfl⟩ rfl rfl (Nat.le_of_ble_eq_true rfl) rfl dX5_merge_2 (z_exR (fun r_1 P_1 V_1 h_1 => ?_))
  obtain ⟨hr_1, hP_1, hB_1, h_1⟩ := h_1
  rw [hP_1, hr_1, Int.toNat_natCast]
  have k0 : V_1 0 (P 1) = V 0 (P 0) := by rw [h_1]; exact cpW_s (by decide)
  have k3 : V_1 3 (P 1) = V 3 (P 0) := by rw [h_1]; exact cpW_s (by decide)
  have k4 : V_1 4 (P 1) = V 4 (P 0) := by rw [h_1]; exact cpW_s (by decide)
  have k5 : V_1 5 (P 1) = V 5 (P 0) := by rw [h_1]; exact cpW_s (by decide)
  have k6 : V_1 6 (P 1) = V 6 (P 0) := by rw [h_1]; exact cpW_s (by decide)
  have k7 : V_1 7 (P 1) = V 7 (P 0) := by rw [h_1]; exact cpW_s (by decide)
  have k8 : V_1 8 (P 1) = V 8 (P 0) := by rw [h_1]; exact cpW_s (by decide)
  have t_0 : 0 ≤ V_1 4 (P 1) 3 := by rw [k4]; exact hn0
  have t_1 : V_1 4 (P 1) 3 ≤ 16 := by rw [k4]; exact hn1
  have t_L : ∀ j, 0 ≤ V_1 7 (P 1) j ∧ V_1 7 (P 1) j < 40 := by rw [k7]; exact hL
  have t_U : ∀ j, 0 ≤ V_1 3 (P 1) j ∧ V_1 3 (P 1) j ≤ 500 := by rw [k3]; exact hU
  have t_5 : inR (V_1 4 (P 1) 4 + 1) := by rw [k4]; exact h5
  have t_c : ∀ a b, 0 ≤ a → a < V_1 4 (P 1) 3 → 0 ≤ b → b < V_1 4 (P 1) 3 → 0 ≤ cmS (pS (V_1 4 (P 1) 3) (V_1 5 (P 1)) (V_1 6 (P 1))) 32 a b ∧ cmS (pS (V_1 4 (P 1) 3) (V_1 5 (P 1)) (V_1 6 (P 1))) 32 a b < V_1 4 (P 1) 3 := by rw [k4, k5, k6]; exact hcm
  have k11 : V_1 11 0 = V 11 0 := by rw [h_1]; exact cpW_9 (by decide)
  have w_s := h_1
  refine z_iload_n E dX5_merge_5 1 rfl rfl ?_
  refine z_iload_n E dX5_merge_6 2 rfl rfl ?_
  refine z_callV E (ci := 4) (N := 6) (C := RX4) (T := TX4) (n := 2) (st := [.ref (ad G 10 0)]) (vl_w (by decide) hw1) rfl rfl [.int (iI branch), .int (iI state)] (kX4_mergeState l G P V_1 (P 1) branch state hw1 hB_1 t_0 t_1 t_L t_U t_5 t_c (by omega) (by omega)) gX5_merge_X4_mergeState rfl ⟨rfl, rfl⟩ (by decide +kernel) ⟨Nat.le_of_ble_eq_true rfl, Nat.le_of_ble_eq_true rfl⟩ rfl rfl (Nat.le_of_ble_eq_true rfl) rfl dX5_merge_7 (z_exI (fun r_2 P_2 V_2 h_2 => ?_))
  obtain ⟨hP_2, hB_2, hR_2, hF_2, h_2⟩ := h_2
  rw [hP_2]
  have w_q := h_2
  have kf := hF_2
  have kh : V_2 11 0 = V 11 0 := (kf 11 0 (by omega)).trans k11
  have kho : 0 ≤ V_2 11 0 1 ∧ V_2 11 0 1 < 4 := by rw [kh]; exact ho
  have khz : 0 ≤ V_2 11 0 2 ∧ V_2 11 0 2 ≤ 4 := by rw [kh]; exact hz
  have kR : inR r_2 := hR_2
  refine z_callV E (ci := 5) (N := 4) (C := RX5) (T := TX5) (n := 1) (st := []) (rfl : vl G 10 0 = true) rfl rfl [.int (iI r_2)] (kX5_keepTrial l G P V_2 r_2 (by omega) hB_2 (by omega) kho khz kR) gX5_merge_X5_keepTrial rfl ⟨rfl, rfl⟩ (by decide +kernel) ⟨Nat.le_of_ble_eq_true rfl, Nat.le_of_ble_eq_true rfl⟩ rfl rfl (Nat.le_of_ble_eq_true rfl) rfl dX5_merge_10 (z_exI (fun r_3 P_3 V_3 h_3 => ?_))
  obtain ⟨hB_3, hr_3, h_3⟩ := h_3
  have w_k := h_3
  have w_r := hr_3
  exact z_iret E Er0 dX5_merge_13 (by rw [w_r]; exact ⟨hB_3, _, w_s ▸ kf, w_s ▸ w_q, w_k⟩)

set_option maxHeartbeats 4000000 in
set_option maxRecDepth 100000 in
theorem kX5_branch (l : Launch) (G : Gl) (P : Nat → Nat) (V : Vt) (state : Int) (hw : P 0 < 6) (hB : BV V) (hn0 : 0 ≤ V 4 (P 0) 3) (hn1 : V 4 (P 0) 3 ≤ 16) (hL : ∀ j, 0 ≤ V 7 (P 0) j ∧ V 7 (P 0) j < 40) (hU : ∀ j, 0 ≤ V 3 (P 0) j ∧ V 3 (P 0) j ≤ 500) (h5 : inR (V 4 (P 0) 4 + 1)) (hcm : ∀ a b, 0 ≤ a → a < V 4 (P 0) 3 → 0 ≤ b → b < V 4 (P 0) 3 → 0 ≤ cmS (pS (V 4 (P 0) 3) (V 5 (P 0)) (V 6 (P 0))) 32 a b ∧ cmS (pS (V 4 (P 0) 3) (V 5 (P 0)) (V 6 (P 0))) 32 a b < V 4 (P 0) 3) (hw1 : P 1 < 6) (huw : P 0 ≠ P 1) (ho : 0 ≤ V 11 0 1 ∧ V 11 0 1 < 4) (hz : 0 ≤ V 11 0 2 ∧ V 11 0 2 ≤ 4) (a1 : inR state) : Met l yX5_branch wsX5_branch ({ frames := 4, cells := 0, slots := 0, locals := 122 }) (va_Pc [.ref (ad G 10 0), .int (iI state)] (Sg G P V)) (Qk G mkI (fun r P' V' => BV V' ∧ ∃ Vt, FR (P 1) (cpW V (P 1) (P 0)) Vt ∧ addBQ (cpW V (P 1) (P 0)) (P 1) state r Vt ∧ KP r P Vt P' V')) 0 0 (mem G) := by
  refine z_met (cc := cX5_branch) (nL := 2) (ret := (some .int)) (own := RX5) (by decide +kernel) rfl rfl (Nat.le_of_ble_eq_true rfl) (L := [some (.ref (ad G 10 0)), some (.int (iI state))]) rfl ?_
  intro X E Er0
  refine z_aload_n E dX5_branch_0 0 rfl rfl ?_
  refine z_aload_n E dX5_branch_1 0 rfl rfl ?_
  refine z_callV E (ci := 5) (N := 4) (C := RX5) (T := TX5) (n := 0) (st := [.ref (ad G 10 0)]) (rfl : vl G 10 0 = true) rfl rfl [] (kX5_startTrial l G P V  (by omega) hB hw1 huw) gX5_branch_X5_startTrial rfl ⟨rfl, rfl⟩ (by decide +kernel) ⟨Nat.le_of_ble_eq_true rfl, Nat.le_of_ble_eq_true rfl⟩ rfl rfl (Nat.le_of_ble_eq_true rfl) rfl dX5_branch_2 (z_exR (fun r_1 P_1 V_1 h_1 => ?_))
  obtain ⟨hr_1, hP_1, hB_1, h_1⟩ := h_1
  rw [hP_1, hr_1, Int.toNat_natCast]
  have k0 : V_1 0 (P 1) = V 0 (P 0) := by rw [h_1]; exact cpW_s (by decide)
  have k3 : V_1 3 (P 1) = V 3 (P 0) := by rw [h_1]; exact cpW_s (by decide)
  have k4 : V_1 4 (P 1) = V 4 (P 0) := by rw [h_1]; exact cpW_s (by decide)
  have k5 : V_1 5 (P 1) = V 5 (P 0) := by rw [h_1]; exact cpW_s (by decide)
  have k6 : V_1 6 (P 1) = V 6 (P 0) := by rw [h_1]; exact cpW_s (by decide)
  have k7 : V_1 7 (P 1) = V 7 (P 0) := by rw [h_1]; exact cpW_s (by decide)
  have k8 : V_1 8 (P 1) = V 8 (P 0) := by rw [h_1]; exact cpW_s (by decide)
  have t_0 : 0 ≤ V_1 4 (P 1) 3 := by rw [k4]; exact hn0
  have t_1 : V_1 4 (P 1) 3 ≤ 16 := by rw [k4]; exact hn1
  have t_L : ∀ j, 0 ≤ V_1 7 (P 1) j ∧ V_1 7 (P 1) j < 40 := by rw [k7]; exact hL
  have t_U : ∀ j, 0 ≤ V_1 3 (P 1) j ∧ V_1 3 (P 1) j ≤ 500 := by rw [k3]; exact hU
  have t_5 : inR (V_1 4 (P 1) 4 + 1) := by rw [k4]; exact h5
  have t_c : ∀ a b, 0 ≤ a → a < V_1 4 (P 1) 3 → 0 ≤ b → b < V_1 4 (P 1) 3 → 0 ≤ cmS (pS (V_1 4 (P 1) 3) (V_1 5 (P 1)) (V_1 6 (P 1))) 32 a b ∧ cmS (pS (V_1 4 (P 1) 3) (V_1 5 (P 1)) (V_1 6 (P 1))) 32 a b < V_1 4 (P 1) 3 := by rw [k4, k5, k6]; exact hcm
  have k11 : V_1 11 0 = V 11 0 := by rw [h_1]; exact cpW_9 (by decide)
  have w_s := h_1
  refine z_iload_n E dX5_branch_5 1 rfl rfl ?_
  refine z_callV E (ci := 4) (N := 6) (C := RX4) (T := TX4) (n := 1) (st := [.ref (ad G 10 0)]) (vl_w (by decide) hw1) rfl rfl [.int (iI state)] (kX4_addBranch l G P V_1 (P 1) state hw1 hB_1 t_0 t_1 (by omega)) gX5_branch_X4_addBranch rfl ⟨rfl, rfl⟩ (by decide +kernel) ⟨Nat.le_of_ble_eq_true rfl, Nat.le_of_ble_eq_true rfl⟩ rfl rfl (Nat.le_of_ble_eq_true rfl) rfl dX5_branch_6 (z_exI (fun r_2 P_2 V_2 h_2 => ?_))
  obtain ⟨hP_2, hB_2, hR_2, h_2⟩ := h_2
  rw [hP_2]
  have w_q := h_2
  have kf := addBQ_fr h_2
  have kh : V_2 11 0 = V 11 0 := (kf 11 0 (by omega)).trans k11
  have kho : 0 ≤ V_2 11 0 1 ∧ V_2 11 0 1 < 4 := by rw [kh]; exact ho
  have khz : 0 ≤ V_2 11 0 2 ∧ V_2 11 0 2 ≤ 4 := by rw [kh]; exact hz
  have kR : inR r_2 := hR_2
  refine z_callV E (ci := 5) (N := 4) (C := RX5) (T := TX5) (n := 1) (st := []) (rfl : vl G 10 0 = true) rfl rfl [.int (iI r_2)] (kX5_keepTrial l G P V_2 r_2 (by omega) hB_2 (by omega) kho khz kR) gX5_branch_X5_keepTrial rfl ⟨rfl, rfl⟩ (by decide +kernel) ⟨Nat.le_of_ble_eq_true rfl, Nat.le_of_ble_eq_true rfl⟩ rfl rfl (Nat.le_of_ble_eq_true rfl) rfl dX5_branch_9 (z_exI (fun r_3 P_3 V_3 h_3 => ?_))
  obtain ⟨hB_3, hr_3, h_3⟩ := h_3
  have w_k := h_3
  have w_r := hr_3
  exact z_iret E Er0 dX5_branch_12 (by rw [w_r]; exact ⟨hB_3, _, w_s ▸ kf, w_s ▸ w_q, w_k⟩)

set_option maxHeartbeats 4000000 in
set_option maxRecDepth 100000 in
theorem kX5_leave (l : Launch) (G : Gl) (P : Nat → Nat) (V : Vt) (b : Int) (hw : P 0 < 6) (hB : BV V) (hn0 : 0 ≤ V 4 (P 0) 3) (hn1 : V 4 (P 0) 3 ≤ 16) (hL : ∀ j, 0 ≤ V 7 (P 0) j ∧ V 7 (P 0) j < 40) (hU : ∀ j, 0 ≤ V 3 (P 0) j ∧ V 3 (P 0) j ≤ 500) (h5 : inR (V 4 (P 0) 4 + 1)) (hcm : ∀ a b, 0 ≤ a → a < V 4 (P 0) 3 → 0 ≤ b → b < V 4 (P 0) 3 → 0 ≤ cmS (pS (V 4 (P 0) 3) (V 5 (P 0)) (V 6 (P 0))) 32 a b ∧ cmS (pS (V 4 (P 0) 3) (V 5 (P 0)) (V 6 (P 0))) 32 a b < V 4 (P 0) 3) (hw1 : P 1 < 6) (huw : P 0 ≠ P 1) (ho : 0 ≤ V 11 0 1 ∧ V 11 0 1 < 4) (hz : 0 ≤ V 11 0 2 ∧ V 11 0 2 ≤ 4) (a1 : inR b) : Met l yX5_leave wsX5_leave ({ frames := 4, cells := 0, slots := 0, locals := 122 }) (va_Pc [.ref (ad G 10 0), .int (iI b)] (Sg G P V)) (Qk G mkI (fun r P' V' => BV V' ∧ ∃ Vt, FR (P 1) (cpW V (P 1) (P 0)) Vt ∧ dropQ (cpW V (P 1) (P 0)) (P 1) b r Vt ∧ KP r P Vt P' V')) 0 0 (mem G) := by
  refine z_met (cc := cX5_leave) (nL := 2) (ret := (some .int)) (own := RX5) (by decide +kernel) rfl rfl (Nat.le_of_ble_eq_true rfl) (L := [some (.ref (ad G 10 0)), some (.int (iI b))]) rfl ?_
  intro X E Er0
  refine z_aload_n E dX5_leave_0 0 rfl rfl ?_
  refine z_aload_n E dX5_leave_1 0 rfl rfl ?_
  refine z_callV E (ci := 5) (N := 4) (C := RX5) (T := TX5) (n := 0) (st := [.ref (ad G 10 0)]) (rfl : vl G 10 0 = true) rfl rfl [] (kX5_startTrial l G P V  (by omega) hB hw1 huw) gX5_leave_X5_startTrial rfl ⟨rfl, rfl⟩ (by decide +kernel) ⟨Nat.le_of_ble_eq_true rfl, Nat.le_of_ble_eq_true rfl⟩ rfl rfl (Nat.le_of_ble_eq_true rfl) rfl dX5_leave_2 (z_exR (fun r_1 P_1 V_1 h_1 => ?_))
  obtain ⟨hr_1, hP_1, hB_1, h_1⟩ := h_1
  rw [hP_1, hr_1, Int.toNat_natCast]
  have k0 : V_1 0 (P 1) = V 0 (P 0) := by rw [h_1]; exact cpW_s (by decide)
  have k3 : V_1 3 (P 1) = V 3 (P 0) := by rw [h_1]; exact cpW_s (by decide)
  have k4 : V_1 4 (P 1) = V 4 (P 0) := by rw [h_1]; exact cpW_s (by decide)
  have k5 : V_1 5 (P 1) = V 5 (P 0) := by rw [h_1]; exact cpW_s (by decide)
  have k6 : V_1 6 (P 1) = V 6 (P 0) := by rw [h_1]; exact cpW_s (by decide)
  have k7 : V_1 7 (P 1) = V 7 (P 0) := by rw [h_1]; exact cpW_s (by decide)
  have k8 : V_1 8 (P 1) = V 8 (P 0) := by rw [h_1]; exact cpW_s (by decide)
  have t_0 : 0 ≤ V_1 4 (P 1) 3 := by rw [k4]; exact hn0
  have t_1 : V_1 4 (P 1) 3 ≤ 16 := by rw [k4]; exact hn1
  have t_L : ∀ j, 0 ≤ V_1 7 (P 1) j ∧ V_1 7 (P 1) j < 40 := by rw [k7]; exact hL
  have t_U : ∀ j, 0 ≤ V_1 3 (P 1) j ∧ V_1 3 (P 1) j ≤ 500 := by rw [k3]; exact hU
  have t_5 : inR (V_1 4 (P 1) 4 + 1) := by rw [k4]; exact h5
  have t_c : ∀ a b, 0 ≤ a → a < V_1 4 (P 1) 3 → 0 ≤ b → b < V_1 4 (P 1) 3 → 0 ≤ cmS (pS (V_1 4 (P 1) 3) (V_1 5 (P 1)) (V_1 6 (P 1))) 32 a b ∧ cmS (pS (V_1 4 (P 1) 3) (V_1 5 (P 1)) (V_1 6 (P 1))) 32 a b < V_1 4 (P 1) 3 := by rw [k4, k5, k6]; exact hcm
  have k11 : V_1 11 0 = V 11 0 := by rw [h_1]; exact cpW_9 (by decide)
  have w_s := h_1
  refine z_iload_n E dX5_leave_5 1 rfl rfl ?_
  refine z_callV E (ci := 4) (N := 6) (C := RX4) (T := TX4) (n := 1) (st := [.ref (ad G 10 0)]) (vl_w (by decide) hw1) rfl rfl [.int (iI b)] (kX4_dropBranch l G P V_1 (P 1) b hw1 hB_1 (by omega)) gX5_leave_X4_dropBranch rfl ⟨rfl, rfl⟩ (by decide +kernel) ⟨Nat.le_of_ble_eq_true rfl, Nat.le_of_ble_eq_true rfl⟩ rfl rfl (Nat.le_of_ble_eq_true rfl) rfl dX5_leave_6 (z_exI (fun r_2 P_2 V_2 h_2 => ?_))
  obtain ⟨hP_2, hB_2, hR_2, h_2⟩ := h_2
  rw [hP_2]
  have w_q := h_2
  have kf := dropQ_fr h_2
  have kh : V_2 11 0 = V 11 0 := (kf 11 0 (by omega)).trans k11
  have kho : 0 ≤ V_2 11 0 1 ∧ V_2 11 0 1 < 4 := by rw [kh]; exact ho
  have khz : 0 ≤ V_2 11 0 2 ∧ V_2 11 0 2 ≤ 4 := by rw [kh]; exact hz
  have kR : inR r_2 := hR_2
  refine z_callV E (ci := 5) (N := 4) (C := RX5) (T := TX5) (n := 1) (st := []) (rfl : vl G 10 0 = true) rfl rfl [.int (iI r_2)] (kX5_keepTrial l G P V_2 r_2 (by omega) hB_2 (by omega) kho khz kR) gX5_leave_X5_keepTrial rfl ⟨rfl, rfl⟩ (by decide +kernel) ⟨Nat.le_of_ble_eq_true rfl, Nat.le_of_ble_eq_true rfl⟩ rfl rfl (Nat.le_of_ble_eq_true rfl) rfl dX5_leave_9 (z_exI (fun r_3 P_3 V_3 h_3 => ?_))
  obtain ⟨hB_3, hr_3, h_3⟩ := h_3
  have w_k := h_3
  have w_r := hr_3
  exact z_iret E Er0 dX5_leave_12 (by rw [w_r]; exact ⟨hB_3, _, w_s ▸ kf, w_s ▸ w_q, w_k⟩)

set_option maxHeartbeats 4000000 in
set_option maxRecDepth 100000 in
theorem kX5_back (l : Launch) (G : Gl) (P : Nat → Nat) (V : Vt) (branch : Int) (hw : P 0 < 6) (hB : BV V) (hn0 : 0 ≤ V 4 (P 0) 3) (hn1 : V 4 (P 0) 3 ≤ 16) (hL : ∀ j, 0 ≤ V 7 (P 0) j ∧ V 7 (P 0) j < 40) (hU : ∀ j, 0 ≤ V 3 (P 0) j ∧ V 3 (P 0) j ≤ 500) (h5 : inR (V 4 (P 0) 4 + 1)) (hcm : ∀ a b, 0 ≤ a → a < V 4 (P 0) 3 → 0 ≤ b → b < V 4 (P 0) 3 → 0 ≤ cmS (pS (V 4 (P 0) 3) (V 5 (P 0)) (V 6 (P 0))) 32 a b ∧ cmS (pS (V 4 (P 0) 3) (V 5 (P 0)) (V 6 (P 0))) 32 a b < V 4 (P 0) 3) (hw1 : P 1 < 6) (huw : P 0 ≠ P 1) (ho : 0 ≤ V 11 0 1 ∧ V 11 0 1 < 4) (hz : 0 ≤ V 11 0 2 ∧ V 11 0 2 ≤ 4) (a1 : inR branch) : Met l yX5_back wsX5_back ({ frames := 4, cells := 0, slots := 0, locals := 122 }) (va_Pc [.ref (ad G 10 0), .int (iI branch)] (Sg G P V)) (Qk G mkI (fun r P' V' => BV V' ∧ ∃ Vt, FR (P 1) (cpW V (P 1) (P 0)) Vt ∧ backQ (cpW V (P 1) (P 0)) (P 1) branch r Vt ∧ KP r P Vt P' V')) 0 0 (mem G) := by
  refine z_met (cc := cX5_back) (nL := 2) (ret := (some .int)) (own := RX5) (by decide +kernel) rfl rfl (Nat.le_of_ble_eq_true rfl) (L := [some (.ref (ad G 10 0)), some (.int (iI branch))]) rfl ?_
  intro X E Er0
  refine z_aload_n E dX5_back_0 0 rfl rfl ?_
  refine z_aload_n E dX5_back_1 0 rfl rfl ?_
  refine z_callV E (ci := 5) (N := 4) (C := RX5) (T := TX5) (n := 0) (st := [.ref (ad G 10 0)]) (rfl : vl G 10 0 = true) rfl rfl [] (kX5_startTrial l G P V  (by omega) hB hw1 huw) gX5_back_X5_startTrial rfl ⟨rfl, rfl⟩ (by decide +kernel) ⟨Nat.le_of_ble_eq_true rfl, Nat.le_of_ble_eq_true rfl⟩ rfl rfl (Nat.le_of_ble_eq_true rfl) rfl dX5_back_2 (z_exR (fun r_1 P_1 V_1 h_1 => ?_))
  obtain ⟨hr_1, hP_1, hB_1, h_1⟩ := h_1
  rw [hP_1, hr_1, Int.toNat_natCast]
  have k0 : V_1 0 (P 1) = V 0 (P 0) := by rw [h_1]; exact cpW_s (by decide)
  have k3 : V_1 3 (P 1) = V 3 (P 0) := by rw [h_1]; exact cpW_s (by decide)
  have k4 : V_1 4 (P 1) = V 4 (P 0) := by rw [h_1]; exact cpW_s (by decide)
  have k5 : V_1 5 (P 1) = V 5 (P 0) := by rw [h_1]; exact cpW_s (by decide)
  have k6 : V_1 6 (P 1) = V 6 (P 0) := by rw [h_1]; exact cpW_s (by decide)
  have k7 : V_1 7 (P 1) = V 7 (P 0) := by rw [h_1]; exact cpW_s (by decide)
  have k8 : V_1 8 (P 1) = V 8 (P 0) := by rw [h_1]; exact cpW_s (by decide)
  have t_0 : 0 ≤ V_1 4 (P 1) 3 := by rw [k4]; exact hn0
  have t_1 : V_1 4 (P 1) 3 ≤ 16 := by rw [k4]; exact hn1
  have t_L : ∀ j, 0 ≤ V_1 7 (P 1) j ∧ V_1 7 (P 1) j < 40 := by rw [k7]; exact hL
  have t_U : ∀ j, 0 ≤ V_1 3 (P 1) j ∧ V_1 3 (P 1) j ≤ 500 := by rw [k3]; exact hU
  have t_5 : inR (V_1 4 (P 1) 4 + 1) := by rw [k4]; exact h5
  have t_c : ∀ a b, 0 ≤ a → a < V_1 4 (P 1) 3 → 0 ≤ b → b < V_1 4 (P 1) 3 → 0 ≤ cmS (pS (V_1 4 (P 1) 3) (V_1 5 (P 1)) (V_1 6 (P 1))) 32 a b ∧ cmS (pS (V_1 4 (P 1) 3) (V_1 5 (P 1)) (V_1 6 (P 1))) 32 a b < V_1 4 (P 1) 3 := by rw [k4, k5, k6]; exact hcm
  have k11 : V_1 11 0 = V 11 0 := by rw [h_1]; exact cpW_9 (by decide)
  have w_s := h_1
  refine z_iload_n E dX5_back_5 1 rfl rfl ?_
  refine z_callV E (ci := 4) (N := 6) (C := RX4) (T := TX4) (n := 1) (st := [.ref (ad G 10 0)]) (vl_w (by decide) hw1) rfl rfl [.int (iI branch)] (kX4_stepBack l G P V_1 (P 1) branch hw1 hB_1 t_0 t_1 (by omega)) gX5_back_X4_stepBack rfl ⟨rfl, rfl⟩ (by decide +kernel) ⟨Nat.le_of_ble_eq_true rfl, Nat.le_of_ble_eq_true rfl⟩ rfl rfl (Nat.le_of_ble_eq_true rfl) rfl dX5_back_6 (z_exI (fun r_2 P_2 V_2 h_2 => ?_))
  obtain ⟨hP_2, hB_2, hR_2, h_2⟩ := h_2
  rw [hP_2]
  have w_q := h_2
  have kf := backQ_fr h_2
  have kh : V_2 11 0 = V 11 0 := (kf 11 0 (by omega)).trans k11
  have kho : 0 ≤ V_2 11 0 1 ∧ V_2 11 0 1 < 4 := by rw [kh]; exact ho
  have khz : 0 ≤ V_2 11 0 2 ∧ V_2 11 0 2 ≤ 4 := by rw [kh]; exact hz
  have kR : inR r_2 := hR_2
  refine z_callV E (ci := 5) (N := 4) (C := RX5) (T := TX5) (n := 1) (st := []) (rfl : vl G 10 0 = true) rfl rfl [.int (iI r_2)] (kX5_keepTrial l G P V_2 r_2 (by omega) hB_2 (by omega) kho khz kR) gX5_back_X5_keepTrial rfl ⟨rfl, rfl⟩ (by decide +kernel) ⟨Nat.le_of_ble_eq_true rfl, Nat.le_of_ble_eq_true rfl⟩ rfl rfl (Nat.le_of_ble_eq_true rfl) rfl dX5_back_9 (z_exI (fun r_3 P_3 V_3 h_3 => ?_))
  obtain ⟨hB_3, hr_3, h_3⟩ := h_3
  have w_k := h_3
  have w_r := hr_3
  exact z_iret E Er0 dX5_back_12 (by rw [w_r]; exact ⟨hB_3, _, w_s ▸ kf, w_s ▸ w_q, w_k⟩)

set_option maxHeartbeats 4000000 in
set_option maxRecDepth 100000 in
theorem kX5_forget (l : Launch) (G : Gl) (P : Nat → Nat) (V : Vt) (state : Int) (hw : P 0 < 6) (hB : BV V) (hn0 : 0 ≤ V 4 (P 0) 3) (hn1 : V 4 (P 0) 3 ≤ 16) (hL : ∀ j, 0 ≤ V 7 (P 0) j ∧ V 7 (P 0) j < 40) (hU : ∀ j, 0 ≤ V 3 (P 0) j ∧ V 3 (P 0) j ≤ 500) (h5 : inR (V 4 (P 0) 4 + 1)) (hcm : ∀ a b, 0 ≤ a → a < V 4 (P 0) 3 → 0 ≤ b → b < V 4 (P 0) 3 → 0 ≤ cmS (pS (V 4 (P 0) 3) (V 5 (P 0)) (V 6 (P 0))) 32 a b ∧ cmS (pS (V 4 (P 0) 3) (V 5 (P 0)) (V 6 (P 0))) 32 a b < V 4 (P 0) 3) (hw1 : P 1 < 6) (huw : P 0 ≠ P 1) (ho : 0 ≤ V 11 0 1 ∧ V 11 0 1 < 4) (hz : 0 ≤ V 11 0 2 ∧ V 11 0 2 ≤ 4) (a1 : inR state) : Met l yX5_forget wsX5_forget ({ frames := 4, cells := 0, slots := 0, locals := 122 }) (va_Pc [.ref (ad G 10 0), .int (iI state)] (Sg G P V)) (Qk G mkI (fun r P' V' => BV V' ∧ ∃ Vt, FR (P 1) (cpW V (P 1) (P 0)) Vt ∧ forgetQ (cpW V (P 1) (P 0)) (P 1) state r Vt ∧ KP r P Vt P' V')) 0 0 (mem G) := by
  refine z_met (cc := cX5_forget) (nL := 2) (ret := (some .int)) (own := RX5) (by decide +kernel) rfl rfl (Nat.le_of_ble_eq_true rfl) (L := [some (.ref (ad G 10 0)), some (.int (iI state))]) rfl ?_
  intro X E Er0
  refine z_aload_n E dX5_forget_0 0 rfl rfl ?_
  refine z_aload_n E dX5_forget_1 0 rfl rfl ?_
  refine z_callV E (ci := 5) (N := 4) (C := RX5) (T := TX5) (n := 0) (st := [.ref (ad G 10 0)]) (rfl : vl G 10 0 = true) rfl rfl [] (kX5_startTrial l G P V  (by omega) hB hw1 huw) gX5_forget_X5_startTrial rfl ⟨rfl, rfl⟩ (by decide +kernel) ⟨Nat.le_of_ble_eq_true rfl, Nat.le_of_ble_eq_true rfl⟩ rfl rfl (Nat.le_of_ble_eq_true rfl) rfl dX5_forget_2 (z_exR (fun r_1 P_1 V_1 h_1 => ?_))
  obtain ⟨hr_1, hP_1, hB_1, h_1⟩ := h_1
  rw [hP_1, hr_1, Int.toNat_natCast]
  have k0 : V_1 0 (P 1) = V 0 (P 0) := by rw [h_1]; exact cpW_s (by decide)
  have k3 : V_1 3 (P 1) = V 3 (P 0) := by rw [h_1]; exact cpW_s (by decide)
  have k4 : V_1 4 (P 1) = V 4 (P 0) := by rw [h_1]; exact cpW_s (by decide)
  have k5 : V_1 5 (P 1) = V 5 (P 0) := by rw [h_1]; exact cpW_s (by decide)
  have k6 : V_1 6 (P 1) = V 6 (P 0) := by rw [h_1]; exact cpW_s (by decide)
  have k7 : V_1 7 (P 1) = V 7 (P 0) := by rw [h_1]; exact cpW_s (by decide)
  have k8 : V_1 8 (P 1) = V 8 (P 0) := by rw [h_1]; exact cpW_s (by decide)
  have t_0 : 0 ≤ V_1 4 (P 1) 3 := by rw [k4]; exact hn0
  have t_1 : V_1 4 (P 1) 3 ≤ 16 := by rw [k4]; exact hn1
  have t_L : ∀ j, 0 ≤ V_1 7 (P 1) j ∧ V_1 7 (P 1) j < 40 := by rw [k7]; exact hL
  have t_U : ∀ j, 0 ≤ V_1 3 (P 1) j ∧ V_1 3 (P 1) j ≤ 500 := by rw [k3]; exact hU
  have t_5 : inR (V_1 4 (P 1) 4 + 1) := by rw [k4]; exact h5
  have t_c : ∀ a b, 0 ≤ a → a < V_1 4 (P 1) 3 → 0 ≤ b → b < V_1 4 (P 1) 3 → 0 ≤ cmS (pS (V_1 4 (P 1) 3) (V_1 5 (P 1)) (V_1 6 (P 1))) 32 a b ∧ cmS (pS (V_1 4 (P 1) 3) (V_1 5 (P 1)) (V_1 6 (P 1))) 32 a b < V_1 4 (P 1) 3 := by rw [k4, k5, k6]; exact hcm
  have k11 : V_1 11 0 = V 11 0 := by rw [h_1]; exact cpW_9 (by decide)
  have w_s := h_1
  refine z_iload_n E dX5_forget_5 1 rfl rfl ?_
  refine z_callV E (ci := 4) (N := 6) (C := RX4) (T := TX4) (n := 1) (st := [.ref (ad G 10 0)]) (vl_w (by decide) hw1) rfl rfl [.int (iI state)] (kX4_forgetState l G P V_1 (P 1) state hw1 hB_1 t_0 t_1 t_L t_U (by omega)) gX5_forget_X4_forgetState rfl ⟨rfl, rfl⟩ (by decide +kernel) ⟨Nat.le_of_ble_eq_true rfl, Nat.le_of_ble_eq_true rfl⟩ rfl rfl (Nat.le_of_ble_eq_true rfl) rfl dX5_forget_6 (z_exI (fun r_2 P_2 V_2 h_2 => ?_))
  obtain ⟨hP_2, hB_2, hR_2, h_2⟩ := h_2
  rw [hP_2]
  have w_q := h_2
  have kf := forgetQ_fr h_2
  have kh : V_2 11 0 = V 11 0 := (kf 11 0 (by omega)).trans k11
  have kho : 0 ≤ V_2 11 0 1 ∧ V_2 11 0 1 < 4 := by rw [kh]; exact ho
  have khz : 0 ≤ V_2 11 0 2 ∧ V_2 11 0 2 ≤ 4 := by rw [kh]; exact hz
  have kR : inR r_2 := hR_2
  refine z_callV E (ci := 5) (N := 4) (C := RX5) (T := TX5) (n := 1) (st := []) (rfl : vl G 10 0 = true) rfl rfl [.int (iI r_2)] (kX5_keepTrial l G P V_2 r_2 (by omega) hB_2 (by omega) kho khz kR) gX5_forget_X5_keepTrial rfl ⟨rfl, rfl⟩ (by decide +kernel) ⟨Nat.le_of_ble_eq_true rfl, Nat.le_of_ble_eq_true rfl⟩ rfl rfl (Nat.le_of_ble_eq_true rfl) rfl dX5_forget_9 (z_exI (fun r_3 P_3 V_3 h_3 => ?_))
  obtain ⟨hB_3, hr_3, h_3⟩ := h_3
  have w_k := h_3
  have w_r := hr_3
  exact z_iret E Er0 dX5_forget_12 (by rw [w_r]; exact ⟨hB_3, _, w_s ▸ kf, w_s ▸ w_q, w_k⟩)

set_option maxHeartbeats 4000000 in
set_option maxRecDepth 100000 in
theorem kX5_share (l : Launch) (G : Gl) (P : Nat → Nat) (V : Vt) (hw : P 0 < 6) (hB : BV V) (hn0 : 0 ≤ V 4 (P 0) 3) (hn1 : V 4 (P 0) 3 ≤ 16) (hL : ∀ j, 0 ≤ V 7 (P 0) j ∧ V 7 (P 0) j < 40) (hU : ∀ j, 0 ≤ V 3 (P 0) j ∧ V 3 (P 0) j ≤ 500) (h5 : inR (V 4 (P 0) 4 + 1)) (hcm : ∀ a b, 0 ≤ a → a < V 4 (P 0) 3 → 0 ≤ b → b < V 4 (P 0) 3 → 0 ≤ cmS (pS (V 4 (P 0) 3) (V 5 (P 0)) (V 6 (P 0))) 32 a b ∧ cmS (pS (V 4 (P 0) 3) (V 5 (P 0)) (V 6 (P 0))) 32 a b < V 4 (P 0) 3) (hw1 : P 1 < 6) (huw : P 0 ≠ P 1) (ho : 0 ≤ V 11 0 1 ∧ V 11 0 1 < 4) (hz : 0 ≤ V 11 0 2 ∧ V 11 0 2 ≤ 4) : Met l yX5_share wsX5_share ({ frames := 4, cells := 0, slots := 0, locals := 122 }) (va_Pc [.ref (ad G 10 0)] (Sg G P V)) (Qk G mkI (fun r P' V' => BV V' ∧ ∃ Vt, FR (P 1) (cpW V (P 1) (P 0)) Vt ∧ shareQ (cpW V (P 1) (P 0)) (P 1)  r Vt ∧ KP r P Vt P' V')) 0 0 (mem G) := by
  refine z_met (cc := cX5_share) (nL := 1) (ret := (some .int)) (own := RX5) (by decide +kernel) rfl rfl (Nat.le_of_ble_eq_true rfl) (L := [some (.ref (ad G 10 0))]) rfl ?_
  intro X E Er0
  refine z_aload_n E dX5_share_0 0 rfl rfl ?_
  refine z_aload_n E dX5_share_1 0 rfl rfl ?_
  refine z_callV E (ci := 5) (N := 4) (C := RX5) (T := TX5) (n := 0) (st := [.ref (ad G 10 0)]) (rfl : vl G 10 0 = true) rfl rfl [] (kX5_startTrial l G P V  (by omega) hB hw1 huw) gX5_share_X5_startTrial rfl ⟨rfl, rfl⟩ (by decide +kernel) ⟨Nat.le_of_ble_eq_true rfl, Nat.le_of_ble_eq_true rfl⟩ rfl rfl (Nat.le_of_ble_eq_true rfl) rfl dX5_share_2 (z_exR (fun r_1 P_1 V_1 h_1 => ?_))
  obtain ⟨hr_1, hP_1, hB_1, h_1⟩ := h_1
  rw [hP_1, hr_1, Int.toNat_natCast]
  have k0 : V_1 0 (P 1) = V 0 (P 0) := by rw [h_1]; exact cpW_s (by decide)
  have k3 : V_1 3 (P 1) = V 3 (P 0) := by rw [h_1]; exact cpW_s (by decide)
  have k4 : V_1 4 (P 1) = V 4 (P 0) := by rw [h_1]; exact cpW_s (by decide)
  have k5 : V_1 5 (P 1) = V 5 (P 0) := by rw [h_1]; exact cpW_s (by decide)
  have k6 : V_1 6 (P 1) = V 6 (P 0) := by rw [h_1]; exact cpW_s (by decide)
  have k7 : V_1 7 (P 1) = V 7 (P 0) := by rw [h_1]; exact cpW_s (by decide)
  have k8 : V_1 8 (P 1) = V 8 (P 0) := by rw [h_1]; exact cpW_s (by decide)
  have t_0 : 0 ≤ V_1 4 (P 1) 3 := by rw [k4]; exact hn0
  have t_1 : V_1 4 (P 1) 3 ≤ 16 := by rw [k4]; exact hn1
  have t_L : ∀ j, 0 ≤ V_1 7 (P 1) j ∧ V_1 7 (P 1) j < 40 := by rw [k7]; exact hL
  have t_U : ∀ j, 0 ≤ V_1 3 (P 1) j ∧ V_1 3 (P 1) j ≤ 500 := by rw [k3]; exact hU
  have t_5 : inR (V_1 4 (P 1) 4 + 1) := by rw [k4]; exact h5
  have t_c : ∀ a b, 0 ≤ a → a < V_1 4 (P 1) 3 → 0 ≤ b → b < V_1 4 (P 1) 3 → 0 ≤ cmS (pS (V_1 4 (P 1) 3) (V_1 5 (P 1)) (V_1 6 (P 1))) 32 a b ∧ cmS (pS (V_1 4 (P 1) 3) (V_1 5 (P 1)) (V_1 6 (P 1))) 32 a b < V_1 4 (P 1) 3 := by rw [k4, k5, k6]; exact hcm
  have k11 : V_1 11 0 = V 11 0 := by rw [h_1]; exact cpW_9 (by decide)
  have w_s := h_1
  refine z_callV E (ci := 4) (N := 6) (C := RX4) (T := TX4) (n := 0) (st := [.ref (ad G 10 0)]) (vl_w (by decide) hw1) rfl rfl [] (kX4_shareBlocks l G P V_1 (P 1)  hw1 hB_1 t_0 t_1 t_L t_U) gX5_share_X4_shareBlocks rfl ⟨rfl, rfl⟩ (by decide +kernel) ⟨Nat.le_of_ble_eq_true rfl, Nat.le_of_ble_eq_true rfl⟩ rfl rfl (Nat.le_of_ble_eq_true rfl) rfl dX5_share_5 (z_exI (fun r_2 P_2 V_2 h_2 => ?_))
  obtain ⟨hP_2, hB_2, hR_2, h_2⟩ := h_2
  rw [hP_2]
  have w_q := h_2
  have kf := shareQ_fr h_2
  have kh : V_2 11 0 = V 11 0 := (kf 11 0 (by omega)).trans k11
  have kho : 0 ≤ V_2 11 0 1 ∧ V_2 11 0 1 < 4 := by rw [kh]; exact ho
  have khz : 0 ≤ V_2 11 0 2 ∧ V_2 11 0 2 ≤ 4 := by rw [kh]; exact hz
  have kR : inR r_2 := hR_2
  refine z_callV E (ci := 5) (N := 4) (C := RX5) (T := TX5) (n := 1) (st := []) (rfl : vl G 10 0 = true) rfl rfl [.int (iI r_2)] (kX5_keepTrial l G P V_2 r_2 (by omega) hB_2 (by omega) kho khz kR) gX5_share_X5_keepTrial rfl ⟨rfl, rfl⟩ (by decide +kernel) ⟨Nat.le_of_ble_eq_true rfl, Nat.le_of_ble_eq_true rfl⟩ rfl rfl (Nat.le_of_ble_eq_true rfl) rfl dX5_share_8 (z_exI (fun r_3 P_3 V_3 h_3 => ?_))
  obtain ⟨hB_3, hr_3, h_3⟩ := h_3
  have w_k := h_3
  have w_r := hr_3
  exact z_iret E Er0 dX5_share_11 (by rw [w_r]; exact ⟨hB_3, _, w_s ▸ kf, w_s ▸ w_q, w_k⟩)

set_option maxHeartbeats 4000000 in
set_option maxRecDepth 100000 in
theorem kX5_set (l : Launch) (G : Gl) (P : Nat → Nat) (V : Vt) (what : Int) (value : Int) (hw : P 0 < 6) (hB : BV V) (hn0 : 0 ≤ V 4 (P 0) 3) (hn1 : V 4 (P 0) 3 ≤ 16) (hL : ∀ j, 0 ≤ V 7 (P 0) j ∧ V 7 (P 0) j < 40) (hU : ∀ j, 0 ≤ V 3 (P 0) j ∧ V 3 (P 0) j ≤ 500) (h5 : inR (V 4 (P 0) 4 + 1)) (hcm : ∀ a b, 0 ≤ a → a < V 4 (P 0) 3 → 0 ≤ b → b < V 4 (P 0) 3 → 0 ≤ cmS (pS (V 4 (P 0) 3) (V 5 (P 0)) (V 6 (P 0))) 32 a b ∧ cmS (pS (V 4 (P 0) 3) (V 5 (P 0)) (V 6 (P 0))) 32 a b < V 4 (P 0) 3) (hw1 : P 1 < 6) (huw : P 0 ≠ P 1) (ho : 0 ≤ V 11 0 1 ∧ V 11 0 1 < 4) (hz : 0 ≤ V 11 0 2 ∧ V 11 0 2 ≤ 4) (a1 : inR what) (a2 : inR value) : Met l yX5_set wsX5_set ({ frames := 4, cells := 0, slots := 0, locals := 122 }) (va_Pc [.ref (ad G 10 0), .int (iI what), .int (iI value)] (Sg G P V)) (Qk G mkI (fun r P' V' => BV V' ∧ ∃ Vt, FR (P 1) (cpW V (P 1) (P 0)) Vt ∧ setQ (cpW V (P 1) (P 0)) (P 1) what value r Vt ∧ KP r P Vt P' V')) 0 0 (mem G) := by
  refine z_met (cc := cX5_set) (nL := 3) (ret := (some .int)) (own := RX5) (by decide +kernel) rfl rfl (Nat.le_of_ble_eq_true rfl) (L := [some (.ref (ad G 10 0)), some (.int (iI what)), some (.int (iI value))]) rfl ?_
  intro X E Er0
  refine z_aload_n E dX5_set_0 0 rfl rfl ?_
  refine z_aload_n E dX5_set_1 0 rfl rfl ?_
  refine z_callV E (ci := 5) (N := 4) (C := RX5) (T := TX5) (n := 0) (st := [.ref (ad G 10 0)]) (rfl : vl G 10 0 = true) rfl rfl [] (kX5_startTrial l G P V  (by omega) hB hw1 huw) gX5_set_X5_startTrial rfl ⟨rfl, rfl⟩ (by decide +kernel) ⟨Nat.le_of_ble_eq_true rfl, Nat.le_of_ble_eq_true rfl⟩ rfl rfl (Nat.le_of_ble_eq_true rfl) rfl dX5_set_2 (z_exR (fun r_1 P_1 V_1 h_1 => ?_))
  obtain ⟨hr_1, hP_1, hB_1, h_1⟩ := h_1
  rw [hP_1, hr_1, Int.toNat_natCast]
  have k0 : V_1 0 (P 1) = V 0 (P 0) := by rw [h_1]; exact cpW_s (by decide)
  have k3 : V_1 3 (P 1) = V 3 (P 0) := by rw [h_1]; exact cpW_s (by decide)
  have k4 : V_1 4 (P 1) = V 4 (P 0) := by rw [h_1]; exact cpW_s (by decide)
  have k5 : V_1 5 (P 1) = V 5 (P 0) := by rw [h_1]; exact cpW_s (by decide)
  have k6 : V_1 6 (P 1) = V 6 (P 0) := by rw [h_1]; exact cpW_s (by decide)
  have k7 : V_1 7 (P 1) = V 7 (P 0) := by rw [h_1]; exact cpW_s (by decide)
  have k8 : V_1 8 (P 1) = V 8 (P 0) := by rw [h_1]; exact cpW_s (by decide)
  have t_0 : 0 ≤ V_1 4 (P 1) 3 := by rw [k4]; exact hn0
  have t_1 : V_1 4 (P 1) 3 ≤ 16 := by rw [k4]; exact hn1
  have t_L : ∀ j, 0 ≤ V_1 7 (P 1) j ∧ V_1 7 (P 1) j < 40 := by rw [k7]; exact hL
  have t_U : ∀ j, 0 ≤ V_1 3 (P 1) j ∧ V_1 3 (P 1) j ≤ 500 := by rw [k3]; exact hU
  have t_5 : inR (V_1 4 (P 1) 4 + 1) := by rw [k4]; exact h5
  have t_c : ∀ a b, 0 ≤ a → a < V_1 4 (P 1) 3 → 0 ≤ b → b < V_1 4 (P 1) 3 → 0 ≤ cmS (pS (V_1 4 (P 1) 3) (V_1 5 (P 1)) (V_1 6 (P 1))) 32 a b ∧ cmS (pS (V_1 4 (P 1) 3) (V_1 5 (P 1)) (V_1 6 (P 1))) 32 a b < V_1 4 (P 1) 3 := by rw [k4, k5, k6]; exact hcm
  have k11 : V_1 11 0 = V 11 0 := by rw [h_1]; exact cpW_9 (by decide)
  have w_s := h_1
  refine z_iload_n E dX5_set_5 1 rfl rfl ?_
  refine z_iload_n E dX5_set_6 2 rfl rfl ?_
  refine z_callV E (ci := 4) (N := 6) (C := RX4) (T := TX4) (n := 2) (st := [.ref (ad G 10 0)]) (vl_w (by decide) hw1) rfl rfl [.int (iI what), .int (iI value)] (kX4_changeSetting l G P V_1 (P 1) what value hw1 hB_1 (by omega) (by omega)) gX5_set_X4_changeSetting rfl ⟨rfl, rfl⟩ (by decide +kernel) ⟨Nat.le_of_ble_eq_true rfl, Nat.le_of_ble_eq_true rfl⟩ rfl rfl (Nat.le_of_ble_eq_true rfl) rfl dX5_set_7 (z_exI (fun r_2 P_2 V_2 h_2 => ?_))
  obtain ⟨hP_2, hB_2, hR_2, h_2⟩ := h_2
  rw [hP_2]
  have w_q := h_2
  have kf := setQ_fr h_2
  have kh : V_2 11 0 = V 11 0 := (kf 11 0 (by omega)).trans k11
  have kho : 0 ≤ V_2 11 0 1 ∧ V_2 11 0 1 < 4 := by rw [kh]; exact ho
  have khz : 0 ≤ V_2 11 0 2 ∧ V_2 11 0 2 ≤ 4 := by rw [kh]; exact hz
  have kR : inR r_2 := hR_2
  refine z_callV E (ci := 5) (N := 4) (C := RX5) (T := TX5) (n := 1) (st := []) (rfl : vl G 10 0 = true) rfl rfl [.int (iI r_2)] (kX5_keepTrial l G P V_2 r_2 (by omega) hB_2 (by omega) kho khz kR) gX5_set_X5_keepTrial rfl ⟨rfl, rfl⟩ (by decide +kernel) ⟨Nat.le_of_ble_eq_true rfl, Nat.le_of_ble_eq_true rfl⟩ rfl rfl (Nat.le_of_ble_eq_true rfl) rfl dX5_set_10 (z_exI (fun r_3 P_3 V_3 h_3 => ?_))
  obtain ⟨hB_3, hr_3, h_3⟩ := h_3
  have w_k := h_3
  have w_r := hr_3
  exact z_iret E Er0 dX5_set_13 (by rw [w_r]; exact ⟨hB_3, _, w_s ▸ kf, w_s ▸ w_q, w_k⟩)
