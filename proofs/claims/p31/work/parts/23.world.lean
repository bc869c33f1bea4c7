set_option maxHeartbeats 4000000 in
set_option maxRecDepth 100000 in
theorem kX0_becomeLike (l : Launch) (G : Gl) (P : Nat → Nat) (V : Vt) (w : Nat) (u : Nat) (hw : w < 6) (hB : BV V) (hu : u < 6) (huw : u ≠ w) : Met l yX0_becomeLike wsX0_becomeLike ({ frames := 1, cells := 0, slots := 0, locals := 60 }) (va_Pc [.ref (ad G 1 w), .ref (ad G 1 u)] (Sg G P V)) (Qk G mkV (fun r P' V' => P' = P ∧ BV V' ∧ V' = cpB V w u)) 0 0 (mem G) := by
  refine z_met (cc := cX0_becomeLike) (nL := 2) (ret := none) (own := RX0) (by decide +kernel) rfl rfl (Nat.le_of_ble_eq_true rfl) (L := [some (.ref (ad G 1 w)), some (.ref (ad G 1 u))]) rfl ?_
  intro X E Er0
  have iX0 : ∀ x ∈ wsX00, x ∈ wsX0_becomeLike := by decide +kernel
  have f0 : Cond.fieldLink RX0 9 "SharedStates$Blocks" "cells" "[I" ∈ wsX0_becomeLike := by decide +kernel
  have f1 : Cond.methodLink RX0 25 arraycopyName ∈ wsX0_becomeLike := by decide +kernel
  have f2 : Cond.native arraycopyName ∈ wsX0_becomeLike := by decide +kernel
  have f3 : Cond.static arraycopyName ∈ wsX0_becomeLike := by decide +kernel
  have f4 : Cond.initialized "java/lang/System" ∈ wsX0_becomeLike := by decide +kernel
  have f5 : Cond.fieldLink RX0 15 "SharedStates$Blocks" "uses" "[I" ∈ wsX0_becomeLike := by decide +kernel
  have f6 : Cond.fieldLink RX0 18 "SharedStates$Blocks" "made" "I" ∈ wsX0_becomeLike := by decide +kernel
  have f7 : Cond.fieldLink RX0 22 "SharedStates$Blocks" "taken" "I" ∈ wsX0_becomeLike := by decide +kernel
  refine z_aload_n E dX0_becomeLike_0 1 rfl rfl ?_
  refine z_get E (ci := 0) (N := 4) (C := RX0) (T := TX0) (vl_w (by decide) hu) rfl rfl iX0 0 (by decide) rfl f0 rfl dX0_becomeLike_1 ?_
  refine z_iconst E dX0_becomeLike_4 ?_
  refine z_aload_n E dX0_becomeLike_5 0 rfl rfl ?_
  refine z_get E (ci := 0) (N := 4) (C := RX0) (T := TX0) (vl_w (by decide) hw) rfl rfl iX0 0 (by decide) rfl f0 rfl dX0_becomeLike_6 ?_
  refine z_iconst E dX0_becomeLike_9 ?_
  refine z_aload_n E dX0_becomeLike_10 0 rfl rfl ?_
  refine z_get E (ci := 0) (N := 4) (C := RX0) (T := TX0) (vl_w (by decide) hw) rfl rfl iX0 0 (by decide) rfl f0 rfl dX0_becomeLike_11 ?_
  refine z_alen E (vl_w (by decide) hw) 320 rfl dX0_becomeLike_14 ?_
  refine z_acopyF E (st := []) f1 f2 f3 f4 (vl_w (by decide) hu) (vl_w (by decide) hw) 320 (by omega) 320 (by omega) (fun _ => rfl) (fun _ => rfl) rfl rfl (Nat.le_of_ble_eq_true rfl) (by decide +kernel) rfl dX0_becomeLike_15 ?_
  obtain ⟨V1, hV1⟩ : ∃ Z : Vt, Z = up V 2 w (V 2 u) := ⟨_, rfl⟩
  rw [← hV1]
  have hB1 : BV V1 := hV1 ▸ BV_upF hB (fun j _ => hB.g 2 u j rfl)
  refine z_aload_n E dX0_becomeLike_18 1 rfl rfl ?_
  refine z_get E (ci := 0) (N := 4) (C := RX0) (T := TX0) (vl_w (by decide) hu) rfl rfl iX0 1 (by decide) rfl f5 rfl dX0_becomeLike_19 ?_
  refine z_iconst E dX0_becomeLike_22 ?_
  refine z_aload_n E dX0_becomeLike_23 0 rfl rfl ?_
  refine z_get E (ci := 0) (N := 4) (C := RX0) (T := TX0) (vl_w (by decide) hw) rfl rfl iX0 1 (by decide) rfl f5 rfl dX0_becomeLike_24 ?_
  refine z_iconst E dX0_becomeLike_27 ?_
  refine z_aload_n E dX0_becomeLike_28 0 rfl rfl ?_
  refine z_get E (ci := 0) (N := 4) (C := RX0) (T := TX0) (vl_w (by decide) hw) rfl rfl iX0 1 (by decide) rfl f5 rfl dX0_becomeLike_29 ?_
  refine z_alen E (vl_w (by decide) hw) 40 rfl dX0_becomeLike_32 ?_
  refine z_acopyF E (st := []) f1 f2 f3 f4 (vl_w (by decide) hu) (vl_w (by decide) hw) 40 (by omega) 40 (by omega) (fun _ => rfl) (fun _ => rfl) rfl rfl (Nat.le_of_ble_eq_true rfl) (by decide +kernel) rfl dX0_becomeLike_33 ?_
  obtain ⟨V2, hV2⟩ : ∃ Z : Vt, Z = up V1 3 w (V1 3 u) := ⟨_, rfl⟩
  rw [← hV2]
  have hB2 : BV V2 := hV2 ▸ BV_upF hB1 (fun j _ => hB1.g 3 u j rfl)
  refine z_aload_n E dX0_becomeLike_36 0 rfl rfl ?_
  refine z_aload_n E dX0_becomeLike_37 1 rfl rfl ?_
  refine z_get E (ci := 0) (N := 4) (C := RX0) (T := TX0) (vl_w (by decide) hu) rfl rfl iX0 2 (by decide) rfl f6 rfl dX0_becomeLike_38 ?_
  refine z_put E (ci := 0) (N := 4) (C := RX0) (T := TX0) (ty := .int) (vl_w (by decide) hw) (updI (V2 1 w) 2 (V2 1 u 2)) rfl rfl iX0 tyX0 tyX0_ok nmX0 2 (by decide) rfl f6 rfl rfl rfl rfl (Nat.le_of_ble_eq_true rfl) rfl dX0_becomeLike_41 ?_
  obtain ⟨V3, hV3⟩ : ∃ Z : Vt, Z = up V2 1 w (updI (V2 1 w) 2 (V2 1 u 2)) := ⟨_, rfl⟩
  rw [← hV3]
  have hB3 : BV V3 := hV3 ▸ BV_up hB2 (fun hz => absurd (Or.inl rfl) hz)
  refine z_aload_n E dX0_becomeLike_44 0 rfl rfl ?_
  refine z_aload_n E dX0_becomeLike_45 1 rfl rfl ?_
  refine z_get E (ci := 0) (N := 4) (C := RX0) (T := TX0) (vl_w (by decide) hu) rfl rfl iX0 3 (by decide) rfl f7 rfl dX0_becomeLike_46 ?_
  refine z_put E (ci := 0) (N := 4) (C := RX0) (T := TX0) (ty := .int) (vl_w (by decide) hw) (updI (V3 1 w) 3 (V3 1 u 3)) rfl rfl iX0 tyX0 tyX0_ok nmX0 3 (by decide) rfl f7 rfl rfl rfl rfl (Nat.le_of_ble_eq_true rfl) rfl dX0_becomeLike_49 ?_
  obtain ⟨V4, hV4⟩ : ∃ Z : Vt, Z = up V3 1 w (updI (V3 1 w) 3 (V3 1 u 3)) := ⟨_, rfl⟩
  rw [← hV4]
  have hB4 : BV V4 := hV4 ▸ BV_up hB3 (fun hz => absurd (Or.inl rfl) hz)
  have e2 : V4 1 w 2 = V 1 u 2 := by simp only [hV4, hV3, hV2, hV1]; simp [up_s, up_r, up_w huw, updI]
  have e3 : V4 1 w 3 = V 1 u 3 := by simp only [hV4, hV3, hV2, hV1]; simp [up_s, up_r, up_w huw, updI]
  refine z_objrow (r := 1) (w := w) (V 1 u) (by simp only [cE]; rw [e2, e3]) ?_
  exact z_vret E Er0 dX0_becomeLike_52 (⟨rfl, BV_upF hB4 (fun j hz => absurd (Or.inl rfl) hz), by simp only [hV4, hV3, hV2, hV1, upup]; rfl⟩)

set_option maxHeartbeats 4000000 in
set_option maxRecDepth 100000 in
theorem kX3_becomeLike (l : Launch) (G : Gl) (P : Nat → Nat) (V : Vt) (w : Nat) (u : Nat) (hw : w < 6) (hB : BV V) (hu : u < 6) (huw : u ≠ w) : Met l yX3_becomeLike wsX3_becomeLike ({ frames := 1, cells := 0, slots := 0, locals := 60 }) (va_Pc [.ref (ad G 4 w), .ref (ad G 4 u)] (Sg G P V)) (Qk G mkV (fun r P' V' => P' = P ∧ BV V' ∧ V' = cpS V w u)) 0 0 (mem G) := by
  refine z_met (cc := cX3_becomeLike) (nL := 2) (ret := none) (own := RX3) (by decide +kernel) rfl rfl (Nat.le_of_ble_eq_true rfl) (L := [some (.ref (ad G 4 w)), some (.ref (ad G 4 u))]) rfl ?_
  intro X E Er0
  have iX3 : ∀ x ∈ wsX30, x ∈ wsX3_becomeLike := by decide +kernel
  have f0 : Cond.fieldLink RX3 9 "SharedStates$States" "numbers" "[I" ∈ wsX3_becomeLike := by decide +kernel
  have f1 : Cond.methodLink RX3 28 arraycopyName ∈ wsX3_becomeLike := by decide +kernel
  have f2 : Cond.native arraycopyName ∈ wsX3_becomeLike := by decide +kernel
  have f3 : Cond.static arraycopyName ∈ wsX3_becomeLike := by decide +kernel
  have f4 : Cond.initialized "java/lang/System" ∈ wsX3_becomeLike := by decide +kernel
  have f5 : Cond.fieldLink RX3 15 "SharedStates$States" "parents" "[I" ∈ wsX3_becomeLike := by decide +kernel
  have f6 : Cond.fieldLink RX3 18 "SharedStates$States" "places" "[I" ∈ wsX3_becomeLike := by decide +kernel
  have f7 : Cond.fieldLink RX3 21 "SharedStates$States" "size" "I" ∈ wsX3_becomeLike := by decide +kernel
  have f8 : Cond.fieldLink RX3 25 "SharedStates$States" "made" "I" ∈ wsX3_becomeLike := by decide +kernel
  refine z_aload_n E dX3_becomeLike_0 1 rfl rfl ?_
  refine z_get E (ci := 3) (N := 5) (C := RX3) (T := TX3) (vl_w (by decide) hu) rfl rfl iX3 0 (by decide) rfl f0 rfl dX3_becomeLike_1 ?_
  refine z_iconst E dX3_becomeLike_4 ?_
  refine z_aload_n E dX3_becomeLike_5 0 rfl rfl ?_
  refine z_get E (ci := 3) (N := 5) (C := RX3) (T := TX3) (vl_w (by decide) hw) rfl rfl iX3 0 (by decide) rfl f0 rfl dX3_becomeLike_6 ?_
  refine z_iconst E dX3_becomeLike_9 ?_
  refine z_aload_n E dX3_becomeLike_10 0 rfl rfl ?_
  refine z_get E (ci := 3) (N := 5) (C := RX3) (T := TX3) (vl_w (by decide) hw) rfl rfl iX3 0 (by decide) rfl f0 rfl dX3_becomeLike_11 ?_
  refine z_alen E (vl_w (by decide) hw) 16 rfl dX3_becomeLike_14 ?_
  refine z_acopyF E (st := []) f1 f2 f3 f4 (vl_w (by decide) hu) (vl_w (by decide) hw) 16 (by omega) 16 (by omega) (fun _ => rfl) (fun _ => rfl) rfl rfl (Nat.le_of_ble_eq_true rfl) (by decide +kernel) rfl dX3_becomeLike_15 ?_
  obtain ⟨V1, hV1⟩ : ∃ Z : Vt, Z = up V 5 w (V 5 u) := ⟨_, rfl⟩
  rw [← hV1]
  have hB1 : BV V1 := hV1 ▸ BV_upF hB (fun j _ => hB.g 5 u j rfl)
  refine z_aload_n E dX3_becomeLike_18 1 rfl rfl ?_
  refine z_get E (ci := 3) (N := 5) (C := RX3) (T := TX3) (vl_w (by decide) hu) rfl rfl iX3 1 (by decide) rfl f5 rfl dX3_becomeLike_19 ?_
  refine z_iconst E dX3_becomeLike_22 ?_
  refine z_aload_n E dX3_becomeLike_23 0 rfl rfl ?_
  refine z_get E (ci := 3) (N := 5) (C := RX3) (T := TX3) (vl_w (by decide) hw) rfl rfl iX3 1 (by decide) rfl f5 rfl dX3_becomeLike_24 ?_
  refine z_iconst E dX3_becomeLike_27 ?_
  refine z_aload_n E dX3_becomeLike_28 0 rfl rfl ?_
  refine z_get E (ci := 3) (N := 5) (C := RX3) (T := TX3) (vl_w (by decide) hw) rfl rfl iX3 1 (by decide) rfl f5 rfl dX3_becomeLike_29 ?_
  refine z_alen E (vl_w (by decide) hw) 16 rfl dX3_becomeLike_32 ?_
  refine z_acopyF E (st := []) f1 f2 f3 f4 (vl_w (by decide) hu) (vl_w (by decide) hw) 16 (by omega) 16 (by omega) (fun _ => rfl) (fun _ => rfl) rfl rfl (Nat.le_of_ble_eq_true rfl) (by decide +kernel) rfl dX3_becomeLike_33 ?_
  obtain ⟨V2, hV2⟩ : ∃ Z : Vt, Z = up V1 6 w (V1 6 u) := ⟨_, rfl⟩
  rw [← hV2]
  have hB2 : BV V2 := hV2 ▸ BV_upF hB1 (fun j _ => hB1.g 6 u j rfl)
  refine z_aload_n E dX3_becomeLike_36 1 rfl rfl ?_
  refine z_get E (ci := 3) (N := 5) (C := RX3) (T := TX3) (vl_w (by decide) hu) rfl rfl iX3 2 (by decide) rfl f6 rfl dX3_becomeLike_37 ?_
  refine z_iconst E dX3_becomeLike_40 ?_
  refine z_aload_n E dX3_becomeLike_41 0 rfl rfl ?_
  refine z_get E (ci := 3) (N := 5) (C := RX3) (T := TX3) (vl_w (by decide) hw) rfl rfl iX3 2 (by decide) rfl f6 rfl dX3_becomeLike_42 ?_
  refine z_iconst E dX3_becomeLike_45 ?_
  refine z_aload_n E dX3_becomeLike_46 0 rfl rfl ?_
  refine z_get E (ci := 3) (N := 5) (C := RX3) (T := TX3) (vl_w (by decide) hw) rfl rfl iX3 2 (by decide) rfl f6 rfl dX3_becomeLike_47 ?_
  refine z_alen E (vl_w (by decide) hw) 96 rfl dX3_becomeLike_50 ?_
  refine z_acopyF E (st := []) f1 f2 f3 f4 (vl_w (by decide) hu) (vl_w (by decide) hw) 96 (by omega) 96 (by omega) (fun _ => rfl) (fun _ => rfl) rfl rfl (Nat.le_of_ble_eq_true rfl) (by decide +kernel) rfl dX3_becomeLike_51 ?_
  obtain ⟨V3, hV3⟩ : ∃ Z : Vt, Z = up V2 7 w (V2 7 u) := ⟨_, rfl⟩
  rw [← hV3]
  have hB3 : BV V3 := hV3 ▸ BV_upF hB2 (fun j _ => hB2.g 7 u j rfl)
  refine z_aload_n E dX3_becomeLike_54 0 rfl rfl ?_
  refine z_aload_n E dX3_becomeLike_55 1 rfl rfl ?_
  have hr_4 := hB3.g 4 u 3 rfl
  refine z_get E (ci := 3) (N := 5) (C := RX3) (T := TX3) (vl_w (by decide) hu) rfl rfl iX3 3 (by decide) rfl f7 rfl dX3_becomeLike_56 ?_
  refine z_put E (ci := 3) (N := 5) (C := RX3) (T := TX3) (ty := .int) (vl_w (by decide) hw) (updI (V3 4 w) 3 (V3 4 u 3)) rfl rfl iX3 tyX3 tyX3_ok nmX3 3 (by decide) rfl f7 rfl rfl rfl rfl (Nat.le_of_ble_eq_true rfl) rfl dX3_becomeLike_59 ?_
  obtain ⟨V5, hV5⟩ : ∃ Z : Vt, Z = up V3 4 w (updI (V3 4 w) 3 (V3 4 u 3)) := ⟨_, rfl⟩
  rw [← hV5]
  have hB5 : BV V5 := hV5 ▸ BV_up hB3 (by intro _; omega)
  refine z_aload_n E dX3_becomeLike_62 0 rfl rfl ?_
  refine z_aload_n E dX3_becomeLike_63 1 rfl rfl ?_
  have hr_6 := hB5.g 4 u 4 rfl
  refine z_get E (ci := 3) (N := 5) (C := RX3) (T := TX3) (vl_w (by decide) hu) rfl rfl iX3 4 (by decide) rfl f8 rfl dX3_becomeLike_64 ?_
  refine z_put E (ci := 3) (N := 5) (C := RX3) (T := TX3) (ty := .int) (vl_w (by decide) hw) (updI (V5 4 w) 4 (V5 4 u 4)) rfl rfl iX3 tyX3 tyX3_ok nmX3 4 (by decide) rfl f8 rfl rfl rfl rfl (Nat.le_of_ble_eq_true rfl) rfl dX3_becomeLike_67 ?_
  obtain ⟨V7, hV7⟩ : ∃ Z : Vt, Z = up V5 4 w (updI (V5 4 w) 4 (V5 4 u 4)) := ⟨_, rfl⟩
  rw [← hV7]
  have hB7 : BV V7 := hV7 ▸ BV_up hB5 (by intro _; omega)
  have e3 : V7 4 w 3 = V 4 u 3 := by simp only [hV7, hV5, hV3, hV2, hV1]; simp [up_s, up_r, up_w huw, updI]
  have e4 : V7 4 w 4 = V 4 u 4 := by simp only [hV7, hV5, hV3, hV2, hV1]; simp [up_s, up_r, up_w huw, updI]
  refine z_objrow (r := 4) (w := w) (V 4 u) (by simp only [cE]; rw [e3, e4]) ?_
  exact z_vret E Er0 dX3_becomeLike_70 (⟨rfl, BV_upF hB7 (fun j _ => hB.g 4 u j rfl), by simp only [hV7, hV5, hV3, hV2, hV1, upup]; rfl⟩)

set_option maxHeartbeats 4000000 in
set_option maxRecDepth 100000 in
theorem kX4_becomeLike (l : Launch) (G : Gl) (P : Nat → Nat) (V : Vt) (w : Nat) (u : Nat) (hw : w < 6) (hB : BV V) (hu : u < 6) (huw : u ≠ w) : Met l yX4_becomeLike wsX4_becomeLike ({ frames := 2, cells := 0, slots := 0, locals := 81 }) (va_Pc [.ref (ad G 0 w), .ref (ad G 0 u)] (Sg G P V)) (Qk G mkV (fun r P' V' => P' = P ∧ BV V' ∧ V' = cpW V w u)) 0 0 (mem G) := by
  refine z_met (cc := cX4_becomeLike) (nL := 2) (ret := none) (own := RX4) (by decide +kernel) rfl rfl (Nat.le_of_ble_eq_true rfl) (L := [some (.ref (ad G 0 w)), some (.ref (ad G 0 u))]) rfl ?_
  intro X E Er0
  have iX4 : ∀ x ∈ wsX40, x ∈ wsX4_becomeLike := by decide +kernel
  have f0 : Cond.fieldLink RX4 12 "SharedStates$World" "blocks" "LSharedStates$Blocks;" ∈ wsX4_becomeLike := by decide +kernel
  have f1 : Cond.fieldLink RX4 21 "SharedStates$World" "states" "LSharedStates$States;" ∈ wsX4_becomeLike := by decide +kernel
  have f2 : Cond.fieldLink RX4 25 "SharedStates$World" "heads" "[I" ∈ wsX4_becomeLike := by decide +kernel
  have f3 : Cond.methodLink RX4 46 arraycopyName ∈ wsX4_becomeLike := by decide +kernel
  have f4 : Cond.native arraycopyName ∈ wsX4_becomeLike := by decide +kernel
  have f5 : Cond.static arraycopyName ∈ wsX4_becomeLike := by decide +kernel
  have f6 : Cond.initialized "java/lang/System" ∈ wsX4_becomeLike := by decide +kernel
  have f7 : Cond.fieldLink RX4 32 "SharedStates$World" "sharing" "I" ∈ wsX4_becomeLike := by decide +kernel
  have f8 : Cond.fieldLink RX4 36 "SharedStates$World" "conflictsSoFar" "I" ∈ wsX4_becomeLike := by decide +kernel
  refine z_aload_n E dX4_becomeLike_0 0 rfl rfl ?_
  refine z_get E (ci := 4) (N := 6) (C := RX4) (T := TX4) (vl_w (by decide) hw) rfl rfl iX4 0 (by decide) rfl f0 rfl dX4_becomeLike_1 ?_
  refine z_aload_n E dX4_becomeLike_4 1 rfl rfl ?_
  refine z_get E (ci := 4) (N := 6) (C := RX4) (T := TX4) (vl_w (by decide) hu) rfl rfl iX4 0 (by decide) rfl f0 rfl dX4_becomeLike_5 ?_
  refine z_callV E (ci := 0) (N := 4) (C := RX0) (T := TX0) (n := 1) (st := []) (vl_w (by decide) hw) rfl rfl [.ref (ad G 1 u)] (kX0_becomeLike l G P V w u hw hB hu huw) gX4_becomeLike_X0_becomeLike rfl ⟨rfl, rfl⟩ (by decide +kernel) ⟨Nat.le_of_ble_eq_true rfl, Nat.le_of_ble_eq_true rfl⟩ rfl rfl (Nat.le_of_ble_eq_true rfl) rfl dX4_becomeLike_8 (z_exV (fun P_1 V_1 h_1 => ?_))
  obtain ⟨hP_1, hB_1, h_1⟩ := h_1
  rw [hP_1]
  have w_a := h_1
  refine z_aload_n E dX4_becomeLike_11 0 rfl rfl ?_
  refine z_get E (ci := 4) (N := 6) (C := RX4) (T := TX4) (vl_w (by decide) hw) rfl rfl iX4 1 (by decide) rfl f1 rfl dX4_becomeLike_12 ?_
  refine z_aload_n E dX4_becomeLike_15 1 rfl rfl ?_
  refine z_get E (ci := 4) (N := 6) (C := RX4) (T := TX4) (vl_w (by decide) hu) rfl rfl iX4 1 (by decide) rfl f1 rfl dX4_becomeLike_16 ?_
  refine z_callV E (ci := 3) (N := 5) (C := RX3) (T := TX3) (n := 1) (st := []) (vl_w (by decide) hw) rfl rfl [.ref (ad G 4 u)] (kX3_becomeLike l G P V_1 w u hw hB_1 hu huw) gX4_becomeLike_X3_becomeLike rfl ⟨rfl, rfl⟩ (by decide +kernel) ⟨Nat.le_of_ble_eq_true rfl, Nat.le_of_ble_eq_true rfl⟩ rfl rfl (Nat.le_of_ble_eq_true rfl) rfl dX4_becomeLike_19 (z_exV (fun P_2 V_2 h_2 => ?_))
  obtain ⟨hP_2, hB_2, h_2⟩ := h_2
  rw [hP_2]
  have w_b := h_2
  refine z_aload_n E dX4_becomeLike_22 1 rfl rfl ?_
  refine z_get E (ci := 4) (N := 6) (C := RX4) (T := TX4) (vl_w (by decide) hu) rfl rfl iX4 2 (by decide) rfl f2 rfl dX4_becomeLike_23 ?_
  refine z_iconst E dX4_becomeLike_26 ?_
  refine z_aload_n E dX4_becomeLike_27 0 rfl rfl ?_
  refine z_get E (ci := 4) (N := 6) (C := RX4) (T := TX4) (vl_w (by decide) hw) rfl rfl iX4 2 (by decide) rfl f2 rfl dX4_becomeLike_28 ?_
  refine z_iconst E dX4_becomeLike_31 ?_
  refine z_aload_n E dX4_becomeLike_32 0 rfl rfl ?_
  refine z_get E (ci := 4) (N := 6) (C := RX4) (T := TX4) (vl_w (by decide) hw) rfl rfl iX4 2 (by decide) rfl f2 rfl dX4_becomeLike_33 ?_
  refine z_alen E (vl_w (by decide) hw) 4 rfl dX4_becomeLike_36 ?_
  refine z_acopyF E (st := []) f3 f4 f5 f6 (vl_w (by decide) hu) (vl_w (by decide) hw) 4 (by omega) 4 (by omega) (fun _ => rfl) (fun _ => rfl) rfl rfl (Nat.le_of_ble_eq_true rfl) (by decide +kernel) rfl dX4_becomeLike_37 ?_
  obtain ⟨V3, hV3⟩ : ∃ Z : Vt, Z = up V_2 8 w (V_2 8 u) := ⟨_, rfl⟩
  rw [← hV3]
  have hB3 : BV V3 := hV3 ▸ BV_upF hB_2 (fun j _ => hB_2.g 8 u j rfl)
  refine z_aload_n E dX4_becomeLike_40 0 rfl rfl ?_
  refine z_aload_n E dX4_becomeLike_41 1 rfl rfl ?_
  have hr_4 := hB3.g0 u
  refine z_get E (ci := 4) (N := 6) (C := RX4) (T := TX4) (vl_w (by decide) hu) rfl rfl iX4 4 (by decide) rfl f7 rfl dX4_becomeLike_42 ?_
  refine z_put E (ci := 4) (N := 6) (C := RX4) (T := TX4) (ty := .int) (vl_w (by decide) hw) (updI (V3 0 w) 4 (V3 0 u 4)) rfl rfl iX4 tyX4 tyX4_ok nmX4 4 (by decide) rfl f7 rfl rfl rfl rfl (Nat.le_of_ble_eq_true rfl) rfl dX4_becomeLike_45 ?_
  obtain ⟨V5, hV5⟩ : ∃ Z : Vt, Z = up V3 0 w (updI (V3 0 w) 4 (V3 0 u 4)) := ⟨_, rfl⟩
  rw [← hV5]
  have hB5 : BV V5 := hV5 ▸ BV_up hB3 (by intro _; omega)
  refine z_aload_n E dX4_becomeLike_48 0 rfl rfl ?_
  refine z_aload_n E dX4_becomeLike_49 1 rfl rfl ?_
  refine z_get E (ci := 4) (N := 6) (C := RX4) (T := TX4) (vl_w (by decide) hu) rfl rfl iX4 5 (by decide) rfl f8 rfl dX4_becomeLike_50 ?_
  refine z_put E (ci := 4) (N := 6) (C := RX4) (T := TX4) (ty := .int) (vl_w (by decide) hw) (updI (V5 0 w) 5 (V5 0 u 5)) rfl rfl iX4 tyX4 tyX4_ok nmX4 5 (by decide) rfl f8 rfl rfl rfl rfl (Nat.le_of_ble_eq_true rfl) rfl dX4_becomeLike_53 ?_
  obtain ⟨V6, hV6⟩ : ∃ Z : Vt, Z = up V5 0 w (updI (V5 0 w) 5 (V5 0 u 5)) := ⟨_, rfl⟩
  rw [← hV6]
  have hB6 : BV V6 := hV6 ▸ BV_up hB5 (fun hz => absurd (by simp [ctr]) hz)
  have e4 : V6 0 w 4 = V 0 u 4 := by simp only [hV6, hV5, hV3, w_a, w_b, cpB, cpS]; simp [up_s, up_r, up_w huw, updI]
  have e5 : V6 0 w 5 = V 0 u 5 := by simp only [hV6, hV5, hV3, w_a, w_b, cpB, cpS]; simp [up_s, up_r, up_w huw, updI]
  refine z_objrow (r := 0) (w := w) (V 0 u) (by simp only [cE]; rw [e4, e5]) ?_
  exact z_vret E Er0 dX4_becomeLike_56 (⟨rfl, BV_upF hB6 (fun j hz => hB 0 u j (by intro z; exact hz (by simp only [ctr] at z ⊢; omega))), by simp only [hV6, hV5, hV3, upup, w_a, w_b]; rfl⟩)

set_option maxHeartbeats 4000000 in
set_option maxRecDepth 100000 in
theorem kX4_fillCells (l : Launch) (G : Gl) (P : Nat → Nat) (V : Vt) (w : Nat) (branch : Int) (cell : Int) (many : Int) (value : Int) (hw : w < 6) (hB : BV V) (hn0 : 0 ≤ V 4 w 3) (hn1 : V 4 w 3 ≤ 16) (hL : ∀ j, 0 ≤ V 7 w j ∧ V 7 w j < 40) (hU : ∀ j, 0 ≤ V 3 w j ∧ V 3 w j ≤ 500) (h5 : inR (V 4 w 4 + 1)) (a1 : inR branch) (a2 : inR cell) (a3 : inR many) (a4 : inR value) : Met l yX4_fillCells wsX4_fillCells ({ frames := 3, cells := 0, slots := 0, locals := 109 }) (va_Pc [.ref (ad G 0 w), .int (iI branch), .int (iI cell), .int (iI many), .int (iI value)] (Sg G P V)) (Qk G mkI (fun r P' V' => P' = P ∧ BV V' ∧ inR r ∧ FR w V V' ∧ fillQ V w branch cell many value r V')) 0 0 (mem G) := by
  refine z_met (cc := cX4_fillCells) (nL := 7) (ret := (some .int)) (own := RX4) (by decide +kernel) rfl rfl (Nat.le_of_ble_eq_true rfl) (L := [some (.ref (ad G 0 w)), some (.int (iI branch)), some (.int (iI cell)), some (.int (iI many)), some (.int (iI value)), none, none]) rfl ?_
  intro X E Er0
  have iX4 : ∀ x ∈ wsX40, x ∈ wsX4_fillCells := by decide +kernel
  have f0 : Cond.constant RX4 101 (-1000001) ∈ wsX4_fillCells := by decide +kernel
  have f1 : Cond.static yX5_isRange ∈ wsX4_fillCells := by decide +kernel
  have f2 : Cond.initialized RX5 ∈ wsX4_fillCells := by decide +kernel
  have f3 : Cond.static yX5_isIndex ∈ wsX4_fillCells := by decide +kernel
  have f4 : Cond.fieldLink RX4 29 "SharedStates$World" "draft" "[I" ∈ wsX4_fillCells := by decide +kernel
  refine z_aload_n E dX4_fillCells_0 0 rfl rfl ?_
  refine z_iload_n E dX4_fillCells_1 1 rfl rfl ?_
  refine z_callV E (ci := 4) (N := 6) (C := RX4) (T := TX4) (n := 1) (st := []) (vl_w (by decide) hw) rfl rfl [.int (iI branch)] (kX4_headSlot l G P V w branch hw hB (by omega) (by omega) (by omega)) gX4_fillCells_X4_headSlot rfl ⟨rfl, rfl⟩ (by decide +kernel) ⟨Nat.le_of_ble_eq_true rfl, Nat.le_of_ble_eq_true rfl⟩ rfl rfl (Nat.le_of_ble_eq_true rfl) rfl dX4_fillCells_2 (z_dtI ?_)
  have h_1a := hdS_c (n := V 4 w 3) (num := V 5 w) (hd := V 8 w) branch (by omega)
  refine z_istore E dX4_fillCells_5 (L' := [some (.ref (ad G 0 w)), some (.int (iI branch)), some (.int (iI cell)), some (.int (iI many)), some (.int (iI value)), some (.int (iI (hdS (V 4 w 3) (V 5 w) (V 8 w) branch))), none]) (Nat.le_of_ble_eq_true rfl) rfl ?_
  refine z_iload E dX4_fillCells_7 rfl ?_
  refine z_if_lt E 31 dX4_fillCells_9 rfl (by omega) (fun c_2 => ?_) (fun c_2 => ?_)
  · skip
    refine z_ldc E (-1000001) f0 rfl dX4_fillCells_31 ?_
    exact z_iret E Er0 dX4_fillCells_33 (⟨rfl, hB, (by omega), FR.rf, Or.inl ⟨rfl, by omega⟩⟩)
  · skip
    refine z_iload_n E dX4_fillCells_12 2 rfl rfl ?_
    refine z_iload_n E dX4_fillCells_13 3 rfl rfl ?_
    refine z_callN E (n := 2) (st := []) (host := "SharedStates") [.int (iI cell), .int (iI many)] (fun U h => nst_X4_98 h) f1 f2 (kX5_isRange l G P V cell many (by omega) (by omega)) gX4_fillCells_X5_isRange_n98 rfl ⟨rfl, rfl⟩ (by decide +kernel) ⟨Nat.le_of_ble_eq_true rfl, Nat.le_of_ble_eq_true rfl⟩ rfl rfl (Nat.le_of_ble_eq_true rfl) rfl dX4_fillCells_14 (z_dtI ?_)
    refine z_ifeq_b E 31 dX4_fillCells_17 rfl (fun c_4 => ?_) (fun c_4 => ?_)
    · skip
      refine z_ldc E (-1000001) f0 rfl dX4_fillCells_31 ?_
      exact z_iret E Er0 dX4_fillCells_33 (⟨rfl, hB, (by omega), FR.rf, Or.inl ⟨rfl, by omega⟩⟩)
    · skip
      refine z_iload E dX4_fillCells_20 rfl ?_
      refine z_sipush E dX4_fillCells_22 rfl ?_
      refine z_callN E (n := 2) (st := []) (host := "SharedStates") [.int (iI value), .int (iI 1000)] (fun U h => nst_X4_52 h) f3 f2 (kX5_isIndex l G P V value 1000 (by omega) (by omega)) gX4_fillCells_X5_isIndex_n52 rfl ⟨rfl, rfl⟩ (by decide +kernel) ⟨Nat.le_of_ble_eq_true rfl, Nat.le_of_ble_eq_true rfl⟩ rfl rfl (Nat.le_of_ble_eq_true rfl) rfl dX4_fillCells_25 (z_dtI ?_)
      refine z_ifne_b E 34 dX4_fillCells_28 rfl (fun c_6 => ?_) (fun c_6 => ?_)
      · skip
        refine z_aload_n E dX4_fillCells_34 0 rfl rfl ?_
        refine z_iload E dX4_fillCells_35 rfl ?_
        refine z_callV E (ci := 4) (N := 6) (C := RX4) (T := TX4) (n := 1) (st := []) (vl_w (by decide) hw) rfl rfl [.int (iI (hdS (V 4 w 3) (V 5 w) (V 8 w) branch))] (kX4_draftState l G P V w (hdS (V 4 w 3) (V 5 w) (V 8 w) branch) hw hB (by omega) (by omega) hL (by omega) (by omega)) gX4_fillCells_X4_draftState rfl ⟨rfl, rfl⟩ (by decide +kernel) ⟨Nat.le_of_ble_eq_true rfl, Nat.le_of_ble_eq_true rfl⟩ rfl rfl (Nat.le_of_ble_eq_true rfl) rfl dX4_fillCells_37 (z_exV (fun P_7 V_7 h_7 => ?_))
        obtain ⟨hP_7, hB_7, h_7⟩ := h_7
        rw [hP_7]
        have w_a := h_7
        refine z_iconst E dX4_fillCells_40 ?_
        refine z_istore E dX4_fillCells_41 (L' := [some (.ref (ad G 0 w)), some (.int (iI branch)), some (.int (iI cell)), some (.int (iI many)), some (.int (iI value)), some (.int (iI (hdS (V 4 w 3) (V 5 w) (V 8 w) branch))), some (.int (iI 0))]) (Nat.le_of_ble_eq_true rfl) rfl ?_
        have lp_43_8 : ∀ (fuel : Nat) (i : Int) (Vl_43 : Vt), BV Vl_43 → (0 ≤ i) → (i ≤ many) → (Vl_43 = up V 9 w (flI (fun c => cA (V 2 w) (V 7 w) (hdS (V 4 w 3) (V 5 w) (V 8 w) branch) c) cell i value)) → (many - i : Int).toNat < fuel → Kz X G P Vl_43 0 0 [some (.ref (ad G 0 w)), some (.int (iI branch)), some (.int (iI cell)), some (.int (iI many)), some (.int (iI value)), some (.int (iI (hdS (V 4 w 3) (V 5 w) (V 8 w) branch))), some (.int (iI i))] 43 [] := by
          intro fuel
          induction fuel with
          | zero => intro i Vl_43 hBl_43 hk0 hk1 hVl hf_43; exact absurd hf_43 (Nat.not_lt_zero _)
          | succ fuel ih_43 =>
            intro i Vl_43 hBl_43 hk0 hk1 hVl hf_43
            have g4 : Vl_43 4 w = V 4 w := by rw [hVl]; rfl
            have g43 : Vl_43 4 w 3 = V 4 w 3 := by rw [g4]
            have g44 : Vl_43 4 w 4 = V 4 w 4 := by rw [g4]
            have g7 : Vl_43 7 w = V 7 w := by rw [hVl]; rfl
            have g3 : Vl_43 3 w = V 3 w := by rw [hVl]; rfl
            have g2 : Vl_43 2 w = V 2 w := by rw [hVl]; rfl
            have hLl : ∀ j, 0 ≤ Vl_43 7 w j ∧ Vl_43 7 w j < 40 := by rw [g7]; exact hL
            have hUl : ∀ j, 0 ≤ Vl_43 3 w j ∧ Vl_43 3 w j ≤ 500 := by rw [g3]; exact hU
            refine z_iload E dX4_fillCells_43 rfl ?_
            refine z_iload_n E dX4_fillCells_45 3 rfl rfl ?_
            refine z_icmp_ge E 66 dX4_fillCells_46 rfl (by omega) (by omega) (fun c_9 => ?_) (fun c_9 => ?_)
            · skip
              refine z_aload_n E dX4_fillCells_66 0 rfl rfl ?_
              refine z_iload_n E dX4_fillCells_67 1 rfl rfl ?_
              refine z_iload E dX4_fillCells_68 rfl ?_
              refine z_callV E (ci := 4) (N := 6) (C := RX4) (T := TX4) (n := 2) (st := []) (vl_w (by decide) hw) rfl rfl [.int (iI branch), .int (iI (hdS (V 4 w 3) (V 5 w) (V 8 w) branch))] (kX4_addDraft l G P Vl_43 w branch (hdS (V 4 w 3) (V 5 w) (V 8 w) branch) hw hBl_43 (by omega) (by omega) hLl hUl (by omega) (by omega) (by omega) (by omega) (by omega)) gX4_fillCells_X4_addDraft rfl ⟨rfl, rfl⟩ (by decide +kernel) ⟨Nat.le_of_ble_eq_true rfl, Nat.le_of_ble_eq_true rfl⟩ rfl rfl (Nat.le_of_ble_eq_true rfl) rfl dX4_fillCells_70 (z_exI (fun r_10 P_10 V_10 h_10 => ?_))
              obtain ⟨hP_10, hB_10, hF_10, h_10⟩ := h_10
              rw [hP_10]
              have w_b := h_10
              have w_f := hF_10
              have hr_z := hB.g 4 w 4 rfl
              have w_rr : inR r_10 := by rcases h_10 with z | z <;> omega
              exact z_iret E Er0 dX4_fillCells_73 (⟨rfl, hB_10, (by omega), FR.tr (by rw [hVl]; exact FR.rf.u (by decide)) w_f, Or.inr ⟨by omega, by rw [show many = i by omega, ← hVl]; exact w_b⟩⟩)
            · skip
              refine z_aload_n E dX4_fillCells_49 0 rfl rfl ?_
              refine z_get E (ci := 4) (N := 6) (C := RX4) (T := TX4) (vl_w (by decide) hw) rfl rfl iX4 3 (by decide) rfl f4 rfl dX4_fillCells_50 ?_
              refine z_iload_n E dX4_fillCells_53 2 rfl rfl ?_
              refine z_iload E dX4_fillCells_54 rfl ?_
              refine z_iadd E dX4_fillCells_56 ?_
              refine z_iload E dX4_fillCells_57 rfl ?_
              refine z_iast E (vl_w (by decide) hw) 48 (fun _ => rfl) (by omega) (by omega) (by omega) dX4_fillCells_59 ?_
              obtain ⟨V11, hV11⟩ : ∃ Z : Vt, Z = up Vl_43 9 w (updI (Vl_43 9 w) (cell + i) value) := ⟨_, rfl⟩
              rw [← hV11]
              have hB11 : BV V11 := hV11 ▸ BV_up hBl_43 (by intro _; omega)
              refine z_iinc E i dX4_fillCells_60 (L' := [some (.ref (ad G 0 w)), some (.int (iI branch)), some (.int (iI cell)), some (.int (iI many)), some (.int (iI value)), some (.int (iI (hdS (V 4 w 3) (V 5 w) (V 8 w) branch))), some (.int (iI (i + 1)))]) (Nat.le_of_ble_eq_true rfl) rfl rfl ?_
              refine z_goto E 43 dX4_fillCells_63 rfl ?_
              exact ih_43 (i + 1) V11 hB11 (by omega) (by omega) (by rw [hV11, hVl, up_s, flI_s hk0]; exact upup _ _ _ _ _) (by omega)
        exact lp_43_8 ((many - 0 : Int).toNat + 1) 0 V_7 hB_7 (by omega) (by omega) (by rw [flI_0]; exact w_a) (Nat.lt_succ_self _)
      · skip
        refine z_ldc E (-1000001) f0 rfl dX4_fillCells_31 ?_
        exact z_iret E Er0 dX4_fillCells_33 (⟨rfl, hB, (by omega), FR.rf, Or.inl ⟨rfl, by omega⟩⟩)

set_option maxHeartbeats 4000000 in
set_option maxRecDepth 100000 in
theorem kX4_copyCells (l : Launch) (G : Gl) (P : Nat → Nat) (V : Vt) (w : Nat) (branch : Int) (state : Int) (src : Int) (dst : Int) (many : Int) (hw : w < 6) (hB : BV V) (hn0 : 0 ≤ V 4 w 3) (hn1 : V 4 w 3 ≤ 16) (hL : ∀ j, 0 ≤ V 7 w j ∧ V 7 w j < 40) (hU : ∀ j, 0 ≤ V 3 w j ∧ V 3 w j ≤ 500) (h5 : inR (V 4 w 4 + 1)) (a1 : inR branch) (a2 : inR state) (a3 : inR src) (a4 : inR dst) (a5 : inR many) : Met l yX4_copyCells wsX4_copyCells ({ frames := 3, cells := 0, slots := 0, locals := 109 }) (va_Pc [.ref (ad G 0 w), .int (iI branch), .int (iI state), .int (iI src), .int (iI dst), .int (iI many)] (Sg G P V)) (Qk G mkI (fun r P' V' => P' = P ∧ BV V' ∧ inR r ∧ FR w V V' ∧ copyQ V w branch state src dst many r V')) 0 0 (mem G) := by
  refine z_met (cc := cX4_copyCells) (nL := 9) (ret := (some .int)) (own := RX4) (by decide +kernel) rfl rfl (Nat.le_of_ble_eq_true rfl) (L := [some (.ref (ad G 0 w)), some (.int (iI branch)), some (.int (iI state)), some (.int (iI src)), some (.int (iI dst)), some (.int (iI many)), none, none, none]) rfl ?_
  intro X E Er0
  have iX4 : ∀ x ∈ wsX40, x ∈ wsX4_copyCells := by decide +kernel
  have f0 : Cond.fieldLink RX4 21 "SharedStates$World" "states" "LSharedStates$States;" ∈ wsX4_copyCells := by decide +kernel
  have f1 : Cond.constant RX4 101 (-1000001) ∈ wsX4_copyCells := by decide +kernel
  have f2 : Cond.static yX5_isRange ∈ wsX4_copyCells := by decide +kernel
  have f3 : Cond.initialized RX5 ∈ wsX4_copyCells := by decide +kernel
  have f4 : Cond.fieldLink RX4 29 "SharedStates$World" "draft" "[I" ∈ wsX4_copyCells := by decide +kernel
  refine z_aload_n E dX4_copyCells_0 0 rfl rfl ?_
  refine z_iload_n E dX4_copyCells_1 1 rfl rfl ?_
  refine z_callV E (ci := 4) (N := 6) (C := RX4) (T := TX4) (n := 1) (st := []) (vl_w (by decide) hw) rfl rfl [.int (iI branch)] (kX4_headSlot l G P V w branch hw hB (by omega) (by omega) (by omega)) gX4_copyCells_X4_headSlot rfl ⟨rfl, rfl⟩ (by decide +kernel) ⟨Nat.le_of_ble_eq_true rfl, Nat.le_of_ble_eq_true rfl⟩ rfl rfl (Nat.le_of_ble_eq_true rfl) rfl dX4_copyCells_2 (z_dtI ?_)
  have h_1a := hdS_c (n := V 4 w 3) (num := V 5 w) (hd := V 8 w) branch (by omega)
  refine z_istore E dX4_copyCells_5 (L' := [some (.ref (ad G 0 w)), some (.int (iI branch)), some (.int (iI state)), some (.int (iI src)), some (.int (iI dst)), some (.int (iI many)), some (.int (iI (hdS (V 4 w 3) (V 5 w) (V 8 w) branch))), none, none]) (Nat.le_of_ble_eq_true rfl) rfl ?_
  refine z_aload_n E dX4_copyCells_7 0 rfl rfl ?_
  refine z_get E (ci := 4) (N := 6) (C := RX4) (T := TX4) (vl_w (by decide) hw) rfl rfl iX4 1 (by decide) rfl f0 rfl dX4_copyCells_8 ?_
  refine z_iload_n E dX4_copyCells_11 2 rfl rfl ?_
  refine z_callV E (ci := 3) (N := 5) (C := RX3) (T := TX3) (n := 1) (st := []) (vl_w (by decide) hw) rfl rfl [.int (iI state)] (kX3_slotOf l G P V w state hw hB (by omega) (by omega) (by omega)) gX4_copyCells_X3_slotOf rfl ⟨rfl, rfl⟩ (by decide +kernel) ⟨Nat.le_of_ble_eq_true rfl, Nat.le_of_ble_eq_true rfl⟩ rfl rfl (Nat.le_of_ble_eq_true rfl) rfl dX4_copyCells_12 (z_dtI ?_)
  have h_2a := fnd_bd (V 4 w 3) (fun k => V 5 w k = state) (by omega)
  refine z_istore E dX4_copyCells_15 (L' := [some (.ref (ad G 0 w)), some (.int (iI branch)), some (.int (iI state)), some (.int (iI src)), some (.int (iI dst)), some (.int (iI many)), some (.int (iI (hdS (V 4 w 3) (V 5 w) (V 8 w) branch))), some (.int (iI (fnd (V 4 w 3) (fun k => V 5 w k = state)))), none]) (Nat.le_of_ble_eq_true rfl) rfl ?_
  refine z_iload E dX4_copyCells_17 rfl ?_
  refine z_if_lt E 46 dX4_copyCells_19 rfl (by omega) (fun c_3 => ?_) (fun c_3 => ?_)
  · skip
    refine z_ldc E (-1000001) f1 rfl dX4_copyCells_46 ?_
    exact z_iret E Er0 dX4_copyCells_48 (⟨rfl, hB, (by omega), FR.rf, Or.inl ⟨rfl, by omega⟩⟩)
  · skip
    refine z_iload E dX4_copyCells_22 rfl ?_
    refine z_if_lt E 46 dX4_copyCells_24 rfl (by omega) (fun c_4 => ?_) (fun c_4 => ?_)
    · skip
      refine z_ldc E (-1000001) f1 rfl dX4_copyCells_46 ?_
      exact z_iret E Er0 dX4_copyCells_48 (⟨rfl, hB, (by omega), FR.rf, Or.inl ⟨rfl, by omega⟩⟩)
    · skip
      refine z_iload_n E dX4_copyCells_27 3 rfl rfl ?_
      refine z_iload E dX4_copyCells_28 rfl ?_
      refine z_callN E (n := 2) (st := []) (host := "SharedStates") [.int (iI src), .int (iI many)] (fun U h => nst_X4_98 h) f2 f3 (kX5_isRange l G P V src many (by omega) (by omega)) gX4_copyCells_X5_isRange_n98 rfl ⟨rfl, rfl⟩ (by decide +kernel) ⟨Nat.le_of_ble_eq_true rfl, Nat.le_of_ble_eq_true rfl⟩ rfl rfl (Nat.le_of_ble_eq_true rfl) rfl dX4_copyCells_30 (z_dtI ?_)
      refine z_ifeq_b E 46 dX4_copyCells_33 rfl (fun c_6 => ?_) (fun c_6 => ?_)
      · skip
        refine z_ldc E (-1000001) f1 rfl dX4_copyCells_46 ?_
        exact z_iret E Er0 dX4_copyCells_48 (⟨rfl, hB, (by omega), FR.rf, Or.inl ⟨rfl, by omega⟩⟩)
      · skip
        refine z_iload E dX4_copyCells_36 rfl ?_
        refine z_iload E dX4_copyCells_38 rfl ?_
        refine z_callN E (n := 2) (st := []) (host := "SharedStates") [.int (iI dst), .int (iI many)] (fun U h => nst_X4_98 h) f2 f3 (kX5_isRange l G P V dst many (by omega) (by omega)) gX4_copyCells_X5_isRange_n98 rfl ⟨rfl, rfl⟩ (by decide +kernel) ⟨Nat.le_of_ble_eq_true rfl, Nat.le_of_ble_eq_true rfl⟩ rfl rfl (Nat.le_of_ble_eq_true rfl) rfl dX4_copyCells_40 (z_dtI ?_)
        refine z_ifne_b E 49 dX4_copyCells_43 rfl (fun c_8 => ?_) (fun c_8 => ?_)
        · skip
          refine z_aload_n E dX4_copyCells_49 0 rfl rfl ?_
          refine z_iload E dX4_copyCells_50 rfl ?_
          refine z_callV E (ci := 4) (N := 6) (C := RX4) (T := TX4) (n := 1) (st := []) (vl_w (by decide) hw) rfl rfl [.int (iI (hdS (V 4 w 3) (V 5 w) (V 8 w) branch))] (kX4_draftState l G P V w (hdS (V 4 w 3) (V 5 w) (V 8 w) branch) hw hB (by omega) (by omega) hL (by omega) (by omega)) gX4_copyCells_X4_draftState rfl ⟨rfl, rfl⟩ (by decide +kernel) ⟨Nat.le_of_ble_eq_true rfl, Nat.le_of_ble_eq_true rfl⟩ rfl rfl (Nat.le_of_ble_eq_true rfl) rfl dX4_copyCells_52 (z_exV (fun P_9 V_9 h_9 => ?_))
          obtain ⟨hP_9, hB_9, h_9⟩ := h_9
          rw [hP_9]
          have w_a := h_9
          refine z_iconst E dX4_copyCells_55 ?_
          refine z_istore E dX4_copyCells_56 (L' := [some (.ref (ad G 0 w)), some (.int (iI branch)), some (.int (iI state)), some (.int (iI src)), some (.int (iI dst)), some (.int (iI many)), some (.int (iI (hdS (V 4 w 3) (V 5 w) (V 8 w) branch))), some (.int (iI (fnd (V 4 w 3) (fun k => V 5 w k = state)))), some (.int (iI 0))]) (Nat.le_of_ble_eq_true rfl) rfl ?_
          have lp_58_10 : ∀ (fuel : Nat) (i : Int) (Vl_58 : Vt), BV Vl_58 → (0 ≤ i) → (i ≤ many) → (Vl_58 = up V 9 w (cpI (fun c => cA (V 2 w) (V 7 w) (fnd (V 4 w 3) (fun k => V 5 w k = state)) c) (fun c => cA (V 2 w) (V 7 w) (hdS (V 4 w 3) (V 5 w) (V 8 w) branch) c) src dst i)) → (many - i : Int).toNat < fuel → Kz X G P Vl_58 0 0 [some (.ref (ad G 0 w)), some (.int (iI branch)), some (.int (iI state)), some (.int (iI src)), some (.int (iI dst)), some (.int (iI many)), some (.int (iI (hdS (V 4 w 3) (V 5 w) (V 8 w) branch))), some (.int (iI (fnd (V 4 w 3) (fun k => V 5 w k = state)))), some (.int (iI i))] 58 [] := by
            intro fuel
            induction fuel with
            | zero => intro i Vl_58 hBl_58 hk0 hk1 hVl hf_58; exact absurd hf_58 (Nat.not_lt_zero _)
            | succ fuel ih_58 =>
              intro i Vl_58 hBl_58 hk0 hk1 hVl hf_58
              have g4 : Vl_58 4 w = V 4 w := by rw [hVl]; rfl
              have g43 : Vl_58 4 w 3 = V 4 w 3 := by rw [g4]
              have g44 : Vl_58 4 w 4 = V 4 w 4 := by rw [g4]
              have g7 : Vl_58 7 w = V 7 w := by rw [hVl]; rfl
              have g3 : Vl_58 3 w = V 3 w := by rw [hVl]; rfl
              have g2 : Vl_58 2 w = V 2 w := by rw [hVl]; rfl
              have hLl : ∀ j, 0 ≤ Vl_58 7 w j ∧ Vl_58 7 w j < 40 := by rw [g7]; exact hL
              have hUl : ∀ j, 0 ≤ Vl_58 3 w j ∧ Vl_58 3 w j ≤ 500 := by rw [g3]; exact hU
              refine z_iload E dX4_copyCells_58 rfl ?_
              refine z_iload E dX4_copyCells_60 rfl ?_
              refine z_icmp_ge E 91 dX4_copyCells_62 rfl (by omega) (by omega) (fun c_11 => ?_) (fun c_11 => ?_)
              · skip
                refine z_aload_n E dX4_copyCells_91 0 rfl rfl ?_
                refine z_iload_n E dX4_copyCells_92 1 rfl rfl ?_
                refine z_iload E dX4_copyCells_93 rfl ?_
                refine z_callV E (ci := 4) (N := 6) (C := RX4) (T := TX4) (n := 2) (st := []) (vl_w (by decide) hw) rfl rfl [.int (iI branch), .int (iI (hdS (V 4 w 3) (V 5 w) (V 8 w) branch))] (kX4_addDraft l G P Vl_58 w branch (hdS (V 4 w 3) (V 5 w) (V 8 w) branch) hw hBl_58 (by omega) (by omega) hLl hUl (by omega) (by omega) (by omega) (by omega) (by omega)) gX4_copyCells_X4_addDraft rfl ⟨rfl, rfl⟩ (by decide +kernel) ⟨Nat.le_of_ble_eq_true rfl, Nat.le_of_ble_eq_true rfl⟩ rfl rfl (Nat.le_of_ble_eq_true rfl) rfl dX4_copyCells_95 (z_exI (fun r_12 P_12 V_12 h_12 => ?_))
                obtain ⟨hP_12, hB_12, hF_12, h_12⟩ := h_12
                rw [hP_12]
                have w_b := h_12
                have w_f := hF_12
                have hr_z := hB.g 4 w 4 rfl
                have w_rr : inR r_12 := by rcases h_12 with z | z <;> omega
                exact z_iret E Er0 dX4_copyCells_98 (⟨rfl, hB_12, (by omega), FR.tr (by rw [hVl]; exact FR.rf.u (by decide)) w_f, Or.inr ⟨by omega, by rw [show many = i by omega, ← hVl]; exact w_b⟩⟩)
              · skip
                refine z_aload_n E dX4_copyCells_65 0 rfl rfl ?_
                refine z_get E (ci := 4) (N := 6) (C := RX4) (T := TX4) (vl_w (by decide) hw) rfl rfl iX4 3 (by decide) rfl f4 rfl dX4_copyCells_66 ?_
                refine z_iload E dX4_copyCells_69 rfl ?_
                refine z_iload E dX4_copyCells_71 rfl ?_
                refine z_iadd E dX4_copyCells_73 ?_
                refine z_aload_n E dX4_copyCells_74 0 rfl rfl ?_
                refine z_iload E dX4_copyCells_75 rfl ?_
                refine z_iload_n E dX4_copyCells_77 3 rfl rfl ?_
                refine z_iload E dX4_copyCells_78 rfl ?_
                refine z_iadd E dX4_copyCells_80 ?_
                refine z_callV E (ci := 4) (N := 6) (C := RX4) (T := TX4) (n := 2) (st := [.int (iI (dst + i)), .ref (ad G 9 w)]) (vl_w (by decide) hw) rfl rfl [.int (iI (fnd (V 4 w 3) (fun k => V 5 w k = state))), .int (iI (src + i))] (kX4_cellAt l G P Vl_58 w (fnd (V 4 w 3) (fun k => V 5 w k = state)) (src + i) hw hBl_58 (by omega) (by omega) hLl (by omega) (by omega) (by omega) (by omega)) gX4_copyCells_X4_cellAt rfl ⟨rfl, rfl⟩ (by decide +kernel) ⟨Nat.le_of_ble_eq_true rfl, Nat.le_of_ble_eq_true rfl⟩ rfl rfl (Nat.le_of_ble_eq_true rfl) rfl dX4_copyCells_81 (z_dtI ?_)
                have h_13a := cA_R hBl_58 w (fnd (V 4 w 3) (fun k => V 5 w k = state)) (src + i)
                refine z_iast E (vl_w (by decide) hw) 48 (fun _ => rfl) (by omega) (by omega) (by omega) dX4_copyCells_84 ?_
                obtain ⟨V14, hV14⟩ : ∃ Z : Vt, Z = up Vl_58 9 w (updI (Vl_58 9 w) (dst + i) (cA (Vl_58 2 w) (Vl_58 7 w) (fnd (V 4 w 3) (fun k => V 5 w k = state)) (src + i))) := ⟨_, rfl⟩
                rw [← hV14]
                have hB14 : BV V14 := hV14 ▸ BV_up hBl_58 (by intro _; omega)
                refine z_iinc E i dX4_copyCells_85 (L' := [some (.ref (ad G 0 w)), some (.int (iI branch)), some (.int (iI state)), some (.int (iI src)), some (.int (iI dst)), some (.int (iI many)), some (.int (iI (hdS (V 4 w 3) (V 5 w) (V 8 w) branch))), some (.int (iI (fnd (V 4 w 3) (fun k => V 5 w k = state)))), some (.int (iI (i + 1)))]) (Nat.le_of_ble_eq_true rfl) rfl rfl ?_
                refine z_goto E 58 dX4_copyCells_88 rfl ?_
                exact ih_58 (i + 1) V14 hB14 (by omega) (by omega) (by rw [hV14, g2, g7, hVl, up_s, cpI_s hk0]; exact upup _ _ _ _ _) (by omega)
          exact lp_58_10 ((many - 0 : Int).toNat + 1) 0 V_9 hB_9 (by omega) (by omega) (by rw [cpI_0]; exact w_a) (Nat.lt_succ_self _)
        · skip
          refine z_ldc E (-1000001) f1 rfl dX4_copyCells_46 ?_
          exact z_iret E Er0 dX4_copyCells_48 (⟨rfl, hB, (by omega), FR.rf, Or.inl ⟨rfl, by omega⟩⟩)

set_option maxHeartbeats 4000000 in
set_option maxRecDepth 100000 in
theorem kX4_mergeState (l : Launch) (G : Gl) (P : Nat → Nat) (V : Vt) (w : Nat) (branch : Int) (state : Int) (hw : w < 6) (hB : BV V) (hn0 : 0 ≤ V 4 w 3) (hn1 : V 4 w 3 ≤ 16) (hL : ∀ j, 0 ≤ V 7 w j ∧ V 7 w j < 40) (hU : ∀ j, 0 ≤ V 3 w j ∧ V 3 w j ≤ 500) (h5 : inR (V 4 w 4 + 1)) (hcm : ∀ a b, 0 ≤ a → a < V 4 w 3 → 0 ≤ b → b < V 4 w 3 → 0 ≤ cmS (pS (V 4 w 3) (V 5 w) (V 6 w)) 32 a b ∧ cmS (pS (V 4 w 3) (V 5 w) (V 6 w)) 32 a b < V 4 w 3) (a1 : inR branch) (a2 : inR state) : Met l yX4_mergeState wsX4_mergeState ({ frames := 3, cells := 0, slots := 0, locals := 109 }) (va_Pc [.ref (ad G 0 w), .int (iI branch), .int (iI state)] (Sg G P V)) (Qk G mkI (fun r P' V' => P' = P ∧ BV V' ∧ inR r ∧ FR w V V' ∧ mergeQ V w branch state r V')) 0 0 (mem G) := by
  refine z_met (cc := cX4_mergeState) (nL := 7) (ret := (some .int)) (own := RX4) (by decide +kernel) rfl rfl (Nat.le_of_ble_eq_true rfl) (L := [some (.ref (ad G 0 w)), some (.int (iI branch)), some (.int (iI state)), none, none, none, none]) rfl ?_
  intro X E Er0
  have iX4 : ∀ x ∈ wsX40, x ∈ wsX4_mergeState := by decide +kernel
  have f0 : Cond.fieldLink RX4 21 "SharedStates$World" "states" "LSharedStates$States;" ∈ wsX4_mergeState := by decide +kernel
  have f1 : Cond.constant RX4 101 (-1000001) ∈ wsX4_mergeState := by decide +kernel
  have f2 : Cond.fieldLink RX4 36 "SharedStates$World" "conflictsSoFar" "I" ∈ wsX4_mergeState := by decide +kernel
  refine z_aload_n E dX4_mergeState_0 0 rfl rfl ?_
  refine z_iload_n E dX4_mergeState_1 1 rfl rfl ?_
  refine z_callV E (ci := 4) (N := 6) (C := RX4) (T := TX4) (n := 1) (st := []) (vl_w (by decide) hw) rfl rfl [.int (iI branch)] (kX4_headSlot l G P V w branch hw hB (by omega) (by omega) (by omega)) gX4_mergeState_X4_headSlot rfl ⟨rfl, rfl⟩ (by decide +kernel) ⟨Nat.le_of_ble_eq_true rfl, Nat.le_of_ble_eq_true rfl⟩ rfl rfl (Nat.le_of_ble_eq_true rfl) rfl dX4_mergeState_2 (z_dtI ?_)
  have h_1a := hdS_c (n := V 4 w 3) (num := V 5 w) (hd := V 8 w) branch (by omega)
  refine z_istore_n E dX4_mergeState_5 3 rfl (L' := [some (.ref (ad G 0 w)), some (.int (iI branch)), some (.int (iI state)), some (.int (iI (hdS (V 4 w 3) (V 5 w) (V 8 w) branch))), none, none, none]) (Nat.le_of_ble_eq_true rfl) rfl ?_
  refine z_aload_n E dX4_mergeState_6 0 rfl rfl ?_
  refine z_get E (ci := 4) (N := 6) (C := RX4) (T := TX4) (vl_w (by decide) hw) rfl rfl iX4 1 (by decide) rfl f0 rfl dX4_mergeState_7 ?_
  refine z_iload_n E dX4_mergeState_10 2 rfl rfl ?_
  refine z_callV E (ci := 3) (N := 5) (C := RX3) (T := TX3) (n := 1) (st := []) (vl_w (by decide) hw) rfl rfl [.int (iI state)] (kX3_slotOf l G P V w state hw hB (by omega) (by omega) (by omega)) gX4_mergeState_X3_slotOf rfl ⟨rfl, rfl⟩ (by decide +kernel) ⟨Nat.le_of_ble_eq_true rfl, Nat.le_of_ble_eq_true rfl⟩ rfl rfl (Nat.le_of_ble_eq_true rfl) rfl dX4_mergeState_11 (z_dtI ?_)
  have h_2a := fnd_bd (V 4 w 3) (fun k => V 5 w k = state) (by omega)
  refine z_istore E dX4_mergeState_14 (L' := [some (.ref (ad G 0 w)), some (.int (iI branch)), some (.int (iI state)), some (.int (iI (hdS (V 4 w 3) (V 5 w) (V 8 w) branch))), some (.int (iI (fnd (V 4 w 3) (fun k => V 5 w k = state)))), none, none]) (Nat.le_of_ble_eq_true rfl) rfl ?_
  refine z_iload_n E dX4_mergeState_16 3 rfl rfl ?_
  refine z_if_lt E 25 dX4_mergeState_17 rfl (by omega) (fun c_3 => ?_) (fun c_3 => ?_)
  · skip
    refine z_ldc E (-1000001) f1 rfl dX4_mergeState_25 ?_
    exact z_iret E Er0 dX4_mergeState_27 (⟨rfl, hB, (by omega), FR.rf, Or.inl ⟨rfl, by omega⟩⟩)
  · skip
    refine z_iload E dX4_mergeState_20 rfl ?_
    refine z_if_ge E 28 dX4_mergeState_22 rfl (by omega) (fun c_4 => ?_) (fun c_4 => ?_)
    · skip
      refine z_aload_n E dX4_mergeState_28 0 rfl rfl ?_
      refine z_aload_n E dX4_mergeState_29 0 rfl rfl ?_
      refine z_get E (ci := 4) (N := 6) (C := RX4) (T := TX4) (vl_w (by decide) hw) rfl rfl iX4 1 (by decide) rfl f0 rfl dX4_mergeState_30 ?_
      refine z_iload_n E dX4_mergeState_33 3 rfl rfl ?_
      refine z_iload E dX4_mergeState_34 rfl ?_
      refine z_callV E (ci := 3) (N := 5) (C := RX3) (T := TX3) (n := 2) (st := [.ref (ad G 0 w)]) (vl_w (by decide) hw) rfl rfl [.int (iI (hdS (V 4 w 3) (V 5 w) (V 8 w) branch)), .int (iI (fnd (V 4 w 3) (fun k => V 5 w k = state)))] (kX3_commonSlot l G P V w (hdS (V 4 w 3) (V 5 w) (V 8 w) branch) (fnd (V 4 w 3) (fun k => V 5 w k = state)) hw hB (by omega) (by omega) (by omega) (by omega) (by omega) (by omega)) gX4_mergeState_X3_commonSlot rfl ⟨rfl, rfl⟩ (by decide +kernel) ⟨Nat.le_of_ble_eq_true rfl, Nat.le_of_ble_eq_true rfl⟩ rfl rfl (Nat.le_of_ble_eq_true rfl) rfl dX4_mergeState_36 (z_dtI ?_)
      have hc := hcm (hdS (V 4 w 3) (V 5 w) (V 8 w) branch) (fnd (V 4 w 3) (fun k => V 5 w k = state)) (by omega) (by omega) (by omega) (by omega)
      refine z_iload_n E dX4_mergeState_39 3 rfl rfl ?_
      refine z_iload E dX4_mergeState_40 rfl ?_
      refine z_callV E (ci := 4) (N := 6) (C := RX4) (T := TX4) (n := 3) (st := []) (vl_w (by decide) hw) rfl rfl [.int (iI (cmS (pS (V 4 w 3) (V 5 w) (V 6 w)) 32 (hdS (V 4 w 3) (V 5 w) (V 8 w) branch) (fnd (V 4 w 3) (fun k => V 5 w k = state)))), .int (iI (hdS (V 4 w 3) (V 5 w) (V 8 w) branch)), .int (iI (fnd (V 4 w 3) (fun k => V 5 w k = state)))] (kX4_draftMerge l G P V w (cmS (pS (V 4 w 3) (V 5 w) (V 6 w)) 32 (hdS (V 4 w 3) (V 5 w) (V 8 w) branch) (fnd (V 4 w 3) (fun k => V 5 w k = state))) (hdS (V 4 w 3) (V 5 w) (V 8 w) branch) (fnd (V 4 w 3) (fun k => V 5 w k = state)) hw hB (by omega) (by omega) hL (by omega) (by omega) (by omega) (by omega) (by omega) (by omega)) gX4_mergeState_X4_draftMerge rfl ⟨rfl, rfl⟩ (by decide +kernel) ⟨Nat.le_of_ble_eq_true rfl, Nat.le_of_ble_eq_true rfl⟩ rfl rfl (Nat.le_of_ble_eq_true rfl) rfl dX4_mergeState_42 (z_exI (fun r_6 P_6 V_6 h_6 => ?_))
      obtain ⟨hP_6, hB_6, hr_6, h_6⟩ := h_6
      rw [hP_6]
      have w_a := h_6
      have w_r := hr_6
      have g43 : V_6 4 w 3 = V 4 w 3 := by rw [h_6]; rfl
      have g44 : V_6 4 w 4 = V 4 w 4 := by rw [h_6]; rfl
      have g7 : V_6 7 w = V 7 w := by rw [h_6]; rfl
      have g3 : V_6 3 w = V 3 w := by rw [h_6]; rfl
      have hLl : ∀ j, 0 ≤ V_6 7 w j ∧ V_6 7 w j < 40 := by rw [g7]; exact hL
      have hUl : ∀ j, 0 ≤ V_6 3 w j ∧ V_6 3 w j ≤ 500 := by rw [g3]; exact hU
      refine z_istore E dX4_mergeState_45 (L' := [some (.ref (ad G 0 w)), some (.int (iI branch)), some (.int (iI state)), some (.int (iI (hdS (V 4 w 3) (V 5 w) (V 8 w) branch))), some (.int (iI (fnd (V 4 w 3) (fun k => V 5 w k = state)))), some (.int (iI r_6)), none]) (Nat.le_of_ble_eq_true rfl) rfl ?_
      refine z_aload_n E dX4_mergeState_47 0 rfl rfl ?_
      refine z_iload_n E dX4_mergeState_48 1 rfl rfl ?_
      refine z_iload_n E dX4_mergeState_49 3 rfl rfl ?_
      refine z_callV E (ci := 4) (N := 6) (C := RX4) (T := TX4) (n := 2) (st := []) (vl_w (by decide) hw) rfl rfl [.int (iI branch), .int (iI (hdS (V 4 w 3) (V 5 w) (V 8 w) branch))] (kX4_addDraft l G P V_6 w branch (hdS (V 4 w 3) (V 5 w) (V 8 w) branch) hw hB_6 (by omega) (by omega) hLl hUl (by omega) (by omega) (by omega) (by omega) (by omega)) gX4_mergeState_X4_addDraft rfl ⟨rfl, rfl⟩ (by decide +kernel) ⟨Nat.le_of_ble_eq_true rfl, Nat.le_of_ble_eq_true rfl⟩ rfl rfl (Nat.le_of_ble_eq_true rfl) rfl dX4_mergeState_50 (z_exI (fun r_7 P_7 V_7 h_7 => ?_))
      obtain ⟨hP_7, hB_7, hF_7, h_7⟩ := h_7
      rw [hP_7]
      have w_b := h_7
      have w_f := hF_7
      have hr_z := hB.g 4 w 4 rfl
      have w_rr : inR r_7 := by rcases h_7 with z | z <;> omega
      have w_mm := sm_b2i_bd (n := 48) (p := fun c => mgX (cA (V 2 w) (V 7 w) (cmS (pS (V 4 w 3) (V 5 w) (V 6 w)) 32 (hdS (V 4 w 3) (V 5 w) (V 8 w) branch) (fnd (V 4 w 3) (fun k => V 5 w k = state))) c) (cA (V 2 w) (V 7 w) (hdS (V 4 w 3) (V 5 w) (V 8 w) branch) c) (cA (V 2 w) (V 7 w) (fnd (V 4 w 3) (fun k => V 5 w k = state)) c)) (by omega)
      refine z_istore E dX4_mergeState_53 (L' := [some (.ref (ad G 0 w)), some (.int (iI branch)), some (.int (iI state)), some (.int (iI (hdS (V 4 w 3) (V 5 w) (V 8 w) branch))), some (.int (iI (fnd (V 4 w 3) (fun k => V 5 w k = state)))), some (.int (iI r_6)), some (.int (iI r_7))]) (Nat.le_of_ble_eq_true rfl) rfl ?_
      refine z_iload E dX4_mergeState_55 rfl ?_
      refine z_if_ge E 63 dX4_mergeState_57 rfl (by omega) (fun c_8 => ?_) (fun c_8 => ?_)
      · skip
        refine z_aload_n E dX4_mergeState_63 0 rfl rfl ?_
        refine z_dup E dX4_mergeState_64 rfl ?_
        refine z_get E (ci := 4) (N := 6) (C := RX4) (T := TX4) (vl_w (by decide) hw) rfl rfl iX4 5 (by decide) rfl f2 rfl dX4_mergeState_65 ?_
        refine z_iload E dX4_mergeState_68 rfl ?_
        refine z_iadd E dX4_mergeState_70 ?_
        refine z_put E (ci := 4) (N := 6) (C := RX4) (T := TX4) (ty := .int) (vl_w (by decide) hw) (updI (V_7 0 w) 5 ((V_7 0 w 5) + r_6)) rfl rfl iX4 tyX4 tyX4_ok nmX4 5 (by decide) rfl f2 rfl rfl rfl rfl (Nat.le_of_ble_eq_true rfl) rfl dX4_mergeState_71 ?_
        obtain ⟨V9, hV9⟩ : ∃ Z : Vt, Z = up V_7 0 w (updI (V_7 0 w) 5 ((V_7 0 w 5) + r_6)) := ⟨_, rfl⟩
        rw [← hV9]
        have hB9 : BV V9 := hV9 ▸ BV_up hB_7 (fun hz => absurd (by simp [ctr]) hz)
        refine z_iload E dX4_mergeState_74 rfl ?_
        exact z_iret E Er0 dX4_mergeState_76 (⟨rfl, hB9, (by omega), by rw [hV9]; exact (FR.tr (by rw [w_a]; exact FR.rf.u (by decide)) w_f).u (by decide), Or.inr ⟨by omega, _, _, w_a ▸ w_b, Or.inr ⟨by assumption, w_r, hV9⟩⟩⟩)
      · skip
        refine z_iload E dX4_mergeState_60 rfl ?_
        exact z_iret E Er0 dX4_mergeState_62 (⟨rfl, hB_7, (by omega), FR.tr (by rw [w_a]; exact FR.rf.u (by decide)) w_f, Or.inr ⟨by omega, _, _, w_a ▸ w_b, Or.inl ⟨by assumption, rfl⟩⟩⟩)
    · skip
      refine z_ldc E (-1000001) f1 rfl dX4_mergeState_25 ?_
      exact z_iret E Er0 dX4_mergeState_27 (⟨rfl, hB, (by omega), FR.rf, Or.inl ⟨rfl, by omega⟩⟩)

set_option maxHeartbeats 4000000 in
set_option maxRecDepth 100000 in
theorem kX4_addBranch (l : Launch) (G : Gl) (P : Nat → Nat) (V : Vt) (w : Nat) (state : Int) (hw : w < 6) (hB : BV V) (hn0 : 0 ≤ V 4 w 3) (hn1 : V 4 w 3 ≤ 16) (a1 : inR state) : Met l yX4_addBranch wsX4_addBranch ({ frames := 1, cells := 0, slots := 0, locals := 22 }) (va_Pc [.ref (ad G 0 w), .int (iI state)] (Sg G P V)) (Qk G mkI (fun r P' V' => P' = P ∧ BV V' ∧ inR r ∧ addBQ V w state r V')) 0 0 (mem G) := by
  refine z_met (cc := cX4_addBranch) (nL := 3) (ret := (some .int)) (own := RX4) (by decide +kernel) rfl rfl (Nat.le_of_ble_eq_true rfl) (L := [some (.ref (ad G 0 w)), some (.int (iI state)), none]) rfl ?_
  intro X E Er0
  have iX4 : ∀ x ∈ wsX40, x ∈ wsX4_addBranch := by decide +kernel
  have f0 : Cond.fieldLink RX4 21 "SharedStates$World" "states" "LSharedStates$States;" ∈ wsX4_addBranch := by decide +kernel
  have f1 : Cond.constant RX4 119 (-1000003) ∈ wsX4_addBranch := by decide +kernel
  have f2 : Cond.fieldLink RX4 25 "SharedStates$World" "heads" "[I" ∈ wsX4_addBranch := by decide +kernel
  have f3 : Cond.constant RX4 101 (-1000001) ∈ wsX4_addBranch := by decide +kernel
  refine z_aload_n E dX4_addBranch_0 0 rfl rfl ?_
  refine z_get E (ci := 4) (N := 6) (C := RX4) (T := TX4) (vl_w (by decide) hw) rfl rfl iX4 1 (by decide) rfl f0 rfl dX4_addBranch_1 ?_
  refine z_iload_n E dX4_addBranch_4 1 rfl rfl ?_
  refine z_callV E (ci := 3) (N := 5) (C := RX3) (T := TX3) (n := 1) (st := []) (vl_w (by decide) hw) rfl rfl [.int (iI state)] (kX3_slotOf l G P V w state hw hB (by omega) (by omega) (by omega)) gX4_addBranch_X3_slotOf rfl ⟨rfl, rfl⟩ (by decide +kernel) ⟨Nat.le_of_ble_eq_true rfl, Nat.le_of_ble_eq_true rfl⟩ rfl rfl (Nat.le_of_ble_eq_true rfl) rfl dX4_addBranch_5 (z_dtI ?_)
  have h_1a := fnd_bd (V 4 w 3) (fun k => V 5 w k = state) (by omega)
  refine z_if_ge E 14 dX4_addBranch_8 rfl (by omega) (fun c_2 => ?_) (fun c_2 => ?_)
  · skip
    refine z_iconst E dX4_addBranch_14 ?_
    refine z_istore_n E dX4_addBranch_15 2 rfl (L' := [some (.ref (ad G 0 w)), some (.int (iI state)), some (.int (iI 0))]) (Nat.le_of_ble_eq_true rfl) rfl ?_
    have lp_16_3 : ∀ (fuel : Nat) (k : Int), (0 ≤ k) → (k ≤ 4) → (∀ b, 0 ≤ b → b < k → ¬ V 8 w b = -1) → (4 - k : Int).toNat < fuel → Kz X G P V 0 0 [some (.ref (ad G 0 w)), some (.int (iI state)), some (.int (iI k))] 16 [] := by
      intro fuel
      induction fuel with
      | zero => intro k hk0 hk1 hla hf_16; exact absurd hf_16 (Nat.not_lt_zero _)
      | succ fuel ih_16 =>
        intro k hk0 hk1 hla hf_16
        refine z_iload_n E dX4_addBranch_16 2 rfl rfl ?_
        refine z_iconst E dX4_addBranch_17 ?_
        refine z_icmp_ge E 46 dX4_addBranch_18 rfl (by omega) (by omega) (fun c_4 => ?_) (fun c_4 => ?_)
        · skip
          refine z_ldc E (-1000003) f1 rfl dX4_addBranch_46 ?_
          exact z_iret E Er0 dX4_addBranch_48 (⟨rfl, hB, (by omega), Or.inr (Or.inl ⟨by omega, fnd_n (fun j h0 h1 => hla j h0 (by omega)), rfl, rfl⟩)⟩)
        · skip
          refine z_aload_n E dX4_addBranch_21 0 rfl rfl ?_
          refine z_get E (ci := 4) (N := 6) (C := RX4) (T := TX4) (vl_w (by decide) hw) rfl rfl iX4 2 (by decide) rfl f2 rfl dX4_addBranch_22 ?_
          refine z_iload_n E dX4_addBranch_25 2 rfl rfl ?_
          refine z_iald E (vl_w (by decide) hw) 4 rfl (by omega) (by omega) (by omega) dX4_addBranch_26 ?_
          have hr_5 := hB.g 8 w k rfl
          refine z_iconst E dX4_addBranch_27 ?_
          refine z_icmp_ne E 40 dX4_addBranch_28 rfl (by omega) (by omega) (fun c_6 => ?_) (fun c_6 => ?_)
          · skip
            refine z_iinc E k dX4_addBranch_40 (L' := [some (.ref (ad G 0 w)), some (.int (iI state)), some (.int (iI (k + 1)))]) (Nat.le_of_ble_eq_true rfl) rfl rfl ?_
            refine z_goto E 16 dX4_addBranch_43 rfl ?_
            exact ih_16 (k + 1) (by omega) (by omega) (all_s hla (by assumption)) (by omega)
          · skip
            refine z_aload_n E dX4_addBranch_31 0 rfl rfl ?_
            refine z_get E (ci := 4) (N := 6) (C := RX4) (T := TX4) (vl_w (by decide) hw) rfl rfl iX4 2 (by decide) rfl f2 rfl dX4_addBranch_32 ?_
            refine z_iload_n E dX4_addBranch_35 2 rfl rfl ?_
            refine z_iload_n E dX4_addBranch_36 1 rfl rfl ?_
            refine z_iast E (vl_w (by decide) hw) 4 (fun _ => rfl) (by omega) (by omega) (by omega) dX4_addBranch_37 ?_
            obtain ⟨V7, hV7⟩ : ∃ Z : Vt, Z = up V 8 w (updI (V 8 w) k state) := ⟨_, rfl⟩
            rw [← hV7]
            have hB7 : BV V7 := hV7 ▸ BV_up hB (by intro _; omega)
            refine z_iload_n E dX4_addBranch_38 2 rfl rfl ?_
            exact z_iret E Er0 dX4_addBranch_39 (by
                have hf : fnd 4 (fun b => V 8 w b = -1) = k := fnd_y (by omega) (by omega) (by assumption) hla
                exact ⟨rfl, hB7, (by omega), Or.inr (Or.inr ⟨by omega, by omega, hf.symm, hV7⟩)⟩)
    exact lp_16_3 ((4 - 0 : Int).toNat + 1) 0 (by omega) (by omega) all_0 (Nat.lt_succ_self _)
  · skip
    refine z_ldc E (-1000001) f3 rfl dX4_addBranch_11 ?_
    exact z_iret E Er0 dX4_addBranch_13 (⟨rfl, hB, (by omega), Or.inl ⟨rfl, by omega, rfl⟩⟩)

set_option maxHeartbeats 4000000 in
set_option maxRecDepth 100000 in
theorem kX4_dropBranch (l : Launch) (G : Gl) (P : Nat → Nat) (V : Vt) (w : Nat) (b : Int) (hw : w < 6) (hB : BV V) (a1 : inR b) : Met l yX4_dropBranch wsX4_dropBranch ({ frames := 2, cells := 0, slots := 0, locals := 42 }) (va_Pc [.ref (ad G 0 w), .int (iI b)] (Sg G P V)) (Qk G mkI (fun r P' V' => P' = P ∧ BV V' ∧ inR r ∧ dropQ V w b r V')) 0 0 (mem G) := by
  refine z_met (cc := cX4_dropBranch) (nL := 2) (ret := (some .int)) (own := RX4) (by decide +kernel) rfl rfl (Nat.le_of_ble_eq_true rfl) (L := [some (.ref (ad G 0 w)), some (.int (iI b))]) rfl ?_
  intro X E Er0
  have iX4 : ∀ x ∈ wsX40, x ∈ wsX4_dropBranch := by decide +kernel
  have f0 : Cond.fieldLink RX4 25 "SharedStates$World" "heads" "[I" ∈ wsX4_dropBranch := by decide +kernel
  have f1 : Cond.constant RX4 148 (-1000002) ∈ wsX4_dropBranch := by decide +kernel
  have f2 : Cond.constant RX4 101 (-1000001) ∈ wsX4_dropBranch := by decide +kernel
  refine z_aload_n E dX4_dropBranch_0 0 rfl rfl ?_
  refine z_iload_n E dX4_dropBranch_1 1 rfl rfl ?_
  refine z_callV E (ci := 4) (N := 6) (C := RX4) (T := TX4) (n := 1) (st := []) (vl_w (by decide) hw) rfl rfl [.int (iI b)] (kX4_isBranch l G P V w b hw hB (by omega)) gX4_dropBranch_X4_isBranch rfl ⟨rfl, rfl⟩ (by decide +kernel) ⟨Nat.le_of_ble_eq_true rfl, Nat.le_of_ble_eq_true rfl⟩ rfl rfl (Nat.le_of_ble_eq_true rfl) rfl dX4_dropBranch_2 (z_dtI ?_)
  refine z_ifne_b E 11 dX4_dropBranch_5 rfl (fun c_2 => ?_) (fun c_2 => ?_)
  · skip
    refine z_aload_n E dX4_dropBranch_11 0 rfl rfl ?_
    refine z_callV E (ci := 4) (N := 6) (C := RX4) (T := TX4) (n := 0) (st := []) (vl_w (by decide) hw) rfl rfl [] (kX4_branchesThere l G P V w  hw hB) gX4_dropBranch_X4_branchesThere rfl ⟨rfl, rfl⟩ (by decide +kernel) ⟨Nat.le_of_ble_eq_true rfl, Nat.le_of_ble_eq_true rfl⟩ rfl rfl (Nat.le_of_ble_eq_true rfl) rfl dX4_dropBranch_12 (z_dtI ?_)
    have h_3a := sm_b2i_bd (n := 4) (p := fun b => ¬ V 8 w b = -1) (by omega)
    refine z_iconst E dX4_dropBranch_15 ?_
    refine z_icmp_ne E 22 dX4_dropBranch_16 rfl (by omega) (by omega) (fun c_4 => ?_) (fun c_4 => ?_)
    · skip
      refine z_aload_n E dX4_dropBranch_22 0 rfl rfl ?_
      refine z_get E (ci := 4) (N := 6) (C := RX4) (T := TX4) (vl_w (by decide) hw) rfl rfl iX4 2 (by decide) rfl f0 rfl dX4_dropBranch_23 ?_
      refine z_iload_n E dX4_dropBranch_26 1 rfl rfl ?_
      refine z_iconst E dX4_dropBranch_27 ?_
      refine z_iast E (vl_w (by decide) hw) 4 (fun _ => rfl) (by omega) (by omega) (by omega) dX4_dropBranch_28 ?_
      obtain ⟨V5, hV5⟩ : ∃ Z : Vt, Z = up V 8 w (updI (V 8 w) b (-1)) := ⟨_, rfl⟩
      rw [← hV5]
      have hB5 : BV V5 := hV5 ▸ BV_up hB (by intro _; omega)
      refine z_aload_n E dX4_dropBranch_29 0 rfl rfl ?_
      refine z_callV E (ci := 4) (N := 6) (C := RX4) (T := TX4) (n := 0) (st := []) (vl_w (by decide) hw) rfl rfl [] (kX4_branchesThere l G P V5 w  hw hB5) gX4_dropBranch_X4_branchesThere rfl ⟨rfl, rfl⟩ (by decide +kernel) ⟨Nat.le_of_ble_eq_true rfl, Nat.le_of_ble_eq_true rfl⟩ rfl rfl (Nat.le_of_ble_eq_true rfl) rfl dX4_dropBranch_30 (z_dtI ?_)
      have h_6a := sm_b2i_bd (n := 4) (p := fun b => ¬ V5 8 w b = -1) (by omega)
      exact z_iret E Er0 dX4_dropBranch_33 (⟨rfl, hB5, (by omega), Or.inr (Or.inr ⟨by assumption, by assumption, hV5, rfl⟩)⟩)
    · skip
      refine z_ldc E (-1000002) f1 rfl dX4_dropBranch_19 ?_
      exact z_iret E Er0 dX4_dropBranch_21 (⟨rfl, hB, (by omega), Or.inr (Or.inl ⟨by assumption, by assumption, rfl, rfl⟩)⟩)
  · skip
    refine z_ldc E (-1000001) f2 rfl dX4_dropBranch_8 ?_
    exact z_iret E Er0 dX4_dropBranch_10 (⟨rfl, hB, (by omega), Or.inl ⟨rfl, by assumption, rfl⟩⟩)

set_option maxHeartbeats 4000000 in
set_option maxRecDepth 100000 in
theorem kX4_stepBack (l : Launch) (G : Gl) (P : Nat → Nat) (V : Vt) (w : Nat) (branch : Int) (hw : w < 6) (hB : BV V) (hn0 : 0 ≤ V 4 w 3) (hn1 : V 4 w 3 ≤ 16) (a1 : inR branch) : Met l yX4_stepBack wsX4_stepBack ({ frames := 3, cells := 0, slots := 0, locals := 63 }) (va_Pc [.ref (ad G 0 w), .int (iI branch)] (Sg G P V)) (Qk G mkI (fun r P' V' => P' = P ∧ BV V' ∧ inR r ∧ backQ V w branch r V')) 0 0 (mem G) := by
  refine z_met (cc := cX4_stepBack) (nL := 3) (ret := (some .int)) (own := RX4) (by decide +kernel) rfl rfl (Nat.le_of_ble_eq_true rfl) (L := [some (.ref (ad G 0 w)), some (.int (iI branch)), none]) rfl ?_
  intro X E Er0
  have iX4 : ∀ x ∈ wsX40, x ∈ wsX4_stepBack := by decide +kernel
  have f0 : Cond.fieldLink RX4 25 "SharedStates$World" "heads" "[I" ∈ wsX4_stepBack := by decide +kernel
  have f1 : Cond.fieldLink RX4 21 "SharedStates$World" "states" "LSharedStates$States;" ∈ wsX4_stepBack := by decide +kernel
  have f2 : Cond.constant RX4 148 (-1000002) ∈ wsX4_stepBack := by decide +kernel
  have f3 : Cond.constant RX4 101 (-1000001) ∈ wsX4_stepBack := by decide +kernel
  refine z_aload_n E dX4_stepBack_0 0 rfl rfl ?_
  refine z_iload_n E dX4_stepBack_1 1 rfl rfl ?_
  refine z_callV E (ci := 4) (N := 6) (C := RX4) (T := TX4) (n := 1) (st := []) (vl_w (by decide) hw) rfl rfl [.int (iI branch)] (kX4_headSlot l G P V w branch hw hB (by omega) (by omega) (by omega)) gX4_stepBack_X4_headSlot rfl ⟨rfl, rfl⟩ (by decide +kernel) ⟨Nat.le_of_ble_eq_true rfl, Nat.le_of_ble_eq_true rfl⟩ rfl rfl (Nat.le_of_ble_eq_true rfl) rfl dX4_stepBack_2 (z_dtI ?_)
  have h_1a := hdS_c (n := V 4 w 3) (num := V 5 w) (hd := V 8 w) branch (by omega)
  refine z_istore_n E dX4_stepBack_5 2 rfl (L' := [some (.ref (ad G 0 w)), some (.int (iI branch)), some (.int (iI (hdS (V 4 w 3) (V 5 w) (V 8 w) branch)))]) (Nat.le_of_ble_eq_true rfl) rfl ?_
  refine z_iload_n E dX4_stepBack_6 2 rfl rfl ?_
  refine z_if_ge E 13 dX4_stepBack_7 rfl (by omega) (fun c_2 => ?_) (fun c_2 => ?_)
  · skip
    refine z_iload_n E dX4_stepBack_13 2 rfl rfl ?_
    refine z_if_ne E 20 dX4_stepBack_14 rfl (by omega) (fun c_3 => ?_) (fun c_3 => ?_)
    · skip
      refine z_aload_n E dX4_stepBack_20 0 rfl rfl ?_
      refine z_get E (ci := 4) (N := 6) (C := RX4) (T := TX4) (vl_w (by decide) hw) rfl rfl iX4 2 (by decide) rfl f0 rfl dX4_stepBack_21 ?_
      refine z_iload_n E dX4_stepBack_24 1 rfl rfl ?_
      refine z_aload_n E dX4_stepBack_25 0 rfl rfl ?_
      refine z_get E (ci := 4) (N := 6) (C := RX4) (T := TX4) (vl_w (by decide) hw) rfl rfl iX4 1 (by decide) rfl f1 rfl dX4_stepBack_26 ?_
      refine z_iload_n E dX4_stepBack_29 2 rfl rfl ?_
      refine z_callV E (ci := 3) (N := 5) (C := RX3) (T := TX3) (n := 1) (st := [.int (iI branch), .ref (ad G 8 w)]) (vl_w (by decide) hw) rfl rfl [.int (iI (hdS (V 4 w 3) (V 5 w) (V 8 w) branch))] (kX3_parentOf l G P V w (hdS (V 4 w 3) (V 5 w) (V 8 w) branch) hw hB (by omega) (by omega) (by omega) (by omega)) gX4_stepBack_X3_parentOf rfl ⟨rfl, rfl⟩ (by decide +kernel) ⟨Nat.le_of_ble_eq_true rfl, Nat.le_of_ble_eq_true rfl⟩ rfl rfl (Nat.le_of_ble_eq_true rfl) rfl dX4_stepBack_30 (z_dtI ?_)
      have hr_q := hB.g 6 w (hdS (V 4 w 3) (V 5 w) (V 8 w) branch) rfl
      refine z_iast E (vl_w (by decide) hw) 4 (fun _ => rfl) (by omega) (by omega) (by omega) dX4_stepBack_33 ?_
      obtain ⟨V5, hV5⟩ : ∃ Z : Vt, Z = up V 8 w (updI (V 8 w) branch (V 6 w (hdS (V 4 w 3) (V 5 w) (V 8 w) branch))) := ⟨_, rfl⟩
      rw [← hV5]
      have hB5 : BV V5 := hV5 ▸ BV_up hB (by intro _; omega)
      refine z_aload_n E dX4_stepBack_34 0 rfl rfl ?_
      refine z_get E (ci := 4) (N := 6) (C := RX4) (T := TX4) (vl_w (by decide) hw) rfl rfl iX4 2 (by decide) rfl f0 rfl dX4_stepBack_35 ?_
      refine z_iload_n E dX4_stepBack_38 1 rfl rfl ?_
      refine z_iald E (vl_w (by decide) hw) 4 rfl (by omega) (by omega) (by omega) dX4_stepBack_39 ?_
      have hr_6 := hB5.g 8 w branch rfl
      exact z_iret E Er0 dX4_stepBack_40 (⟨rfl, hB5, (by omega), Or.inr (Or.inr ⟨by omega, by rw [hV5, up_s, updI_s], hV5⟩)⟩)
    · skip
      refine z_ldc E (-1000002) f2 rfl dX4_stepBack_17 ?_
      exact z_iret E Er0 dX4_stepBack_19 (⟨rfl, hB, (by omega), Or.inr (Or.inl ⟨by omega, rfl, rfl⟩)⟩)
  · skip
    refine z_ldc E (-1000001) f3 rfl dX4_stepBack_10 ?_
    exact z_iret E Er0 dX4_stepBack_12 (⟨rfl, hB, (by omega), Or.inl ⟨rfl, by omega, rfl⟩⟩)

set_option maxHeartbeats 4000000 in
set_option maxRecDepth 100000 in
theorem kX4_forgetState (l : Launch) (G : Gl) (P : Nat → Nat) (V : Vt) (w : Nat) (state : Int) (hw : w < 6) (hB : BV V) (hn0 : 0 ≤ V 4 w 3) (hn1 : V 4 w 3 ≤ 16) (hL : ∀ j, 0 ≤ V 7 w j ∧ V 7 w j < 40) (hU : ∀ j, 0 ≤ V 3 w j ∧ V 3 w j ≤ 500) (a1 : inR state) : Met l yX4_forgetState wsX4_forgetState ({ frames := 2, cells := 0, slots := 0, locals := 82 }) (va_Pc [.ref (ad G 0 w), .int (iI state)] (Sg G P V)) (Qk G mkI (fun r P' V' => P' = P ∧ BV V' ∧ inR r ∧ forgetQ V w state r V')) 0 0 (mem G) := by
  refine z_met (cc := cX4_forgetState) (nL := 5) (ret := (some .int)) (own := RX4) (by decide +kernel) rfl rfl (Nat.le_of_ble_eq_true rfl) (L := [some (.ref (ad G 0 w)), some (.int (iI state)), none, none, none]) rfl ?_
  intro X E Er0
  have iX4 : ∀ x ∈ wsX40, x ∈ wsX4_forgetState := by decide +kernel
  have f0 : Cond.fieldLink RX4 21 "SharedStates$World" "states" "LSharedStates$States;" ∈ wsX4_forgetState := by decide +kernel
  have f1 : Cond.fieldLink RX4 12 "SharedStates$World" "blocks" "LSharedStates$Blocks;" ∈ wsX4_forgetState := by decide +kernel
  have f2 : Cond.constant RX4 148 (-1000002) ∈ wsX4_forgetState := by decide +kernel
  have f3 : Cond.constant RX4 101 (-1000001) ∈ wsX4_forgetState := by decide +kernel
  refine z_aload_n E dX4_forgetState_0 0 rfl rfl ?_
  refine z_get E (ci := 4) (N := 6) (C := RX4) (T := TX4) (vl_w (by decide) hw) rfl rfl iX4 1 (by decide) rfl f0 rfl dX4_forgetState_1 ?_
  refine z_iload_n E dX4_forgetState_4 1 rfl rfl ?_
  refine z_callV E (ci := 3) (N := 5) (C := RX3) (T := TX3) (n := 1) (st := []) (vl_w (by decide) hw) rfl rfl [.int (iI state)] (kX3_slotOf l G P V w state hw hB (by omega) (by omega) (by omega)) gX4_forgetState_X3_slotOf rfl ⟨rfl, rfl⟩ (by decide +kernel) ⟨Nat.le_of_ble_eq_true rfl, Nat.le_of_ble_eq_true rfl⟩ rfl rfl (Nat.le_of_ble_eq_true rfl) rfl dX4_forgetState_5 (z_dtI ?_)
  have h_1a := fnd_bd (V 4 w 3) (fun k => V 5 w k = state) (by omega)
  refine z_istore_n E dX4_forgetState_8 2 rfl (L' := [some (.ref (ad G 0 w)), some (.int (iI state)), some (.int (iI (fnd (V 4 w 3) (fun k => V 5 w k = state)))), none, none]) (Nat.le_of_ble_eq_true rfl) rfl ?_
  refine z_iload_n E dX4_forgetState_9 2 rfl rfl ?_
  refine z_if_ge E 16 dX4_forgetState_10 rfl (by omega) (fun c_2 => ?_) (fun c_2 => ?_)
  · skip
    refine z_aload_n E dX4_forgetState_16 0 rfl rfl ?_
    refine z_iload_n E dX4_forgetState_17 2 rfl rfl ?_
    refine z_callV E (ci := 4) (N := 6) (C := RX4) (T := TX4) (n := 1) (st := []) (vl_w (by decide) hw) rfl rfl [.int (iI (fnd (V 4 w 3) (fun k => V 5 w k = state)))] (kX4_canForget l G P V w (fnd (V 4 w 3) (fun k => V 5 w k = state)) hw hB (by omega) (by omega) (by omega) (by omega)) gX4_forgetState_X4_canForget rfl ⟨rfl, rfl⟩ (by decide +kernel) ⟨Nat.le_of_ble_eq_true rfl, Nat.le_of_ble_eq_true rfl⟩ rfl rfl (Nat.le_of_ble_eq_true rfl) rfl dX4_forgetState_18 (z_dtI ?_)
    refine z_ifne_b E 27 dX4_forgetState_21 rfl (fun c_4 => ?_) (fun c_4 => ?_)
    · skip
      refine z_aload_n E dX4_forgetState_27 0 rfl rfl ?_
      refine z_get E (ci := 4) (N := 6) (C := RX4) (T := TX4) (vl_w (by decide) hw) rfl rfl iX4 0 (by decide) rfl f1 rfl dX4_forgetState_28 ?_
      refine z_callV E (ci := 0) (N := 4) (C := RX0) (T := TX0) (n := 0) (st := []) (vl_w (by decide) hw) rfl rfl [] (kX0_there l G P V w  hw hB) gX4_forgetState_X0_there rfl ⟨rfl, rfl⟩ (by decide +kernel) ⟨Nat.le_of_ble_eq_true rfl, Nat.le_of_ble_eq_true rfl⟩ rfl rfl (Nat.le_of_ble_eq_true rfl) rfl dX4_forgetState_31 (z_dtI ?_)
      have h_5a := sm_b2i_bd (n := 40) (p := fun b => 0 < V 3 w b) (by omega)
      refine z_istore_n E dX4_forgetState_34 3 rfl (L' := [some (.ref (ad G 0 w)), some (.int (iI state)), some (.int (iI (fnd (V 4 w 3) (fun k => V 5 w k = state)))), some (.int (iI (sm 40 (fun b => b2i (0 < V 3 w b))))), none]) (Nat.le_of_ble_eq_true rfl) rfl ?_
      refine z_iconst E dX4_forgetState_35 ?_
      refine z_istore E dX4_forgetState_36 (L' := [some (.ref (ad G 0 w)), some (.int (iI state)), some (.int (iI (fnd (V 4 w 3) (fun k => V 5 w k = state)))), some (.int (iI (sm 40 (fun b => b2i (0 < V 3 w b))))), some (.int (iI 0))]) (Nat.le_of_ble_eq_true rfl) rfl ?_
      have lp_38_6 : ∀ (fuel : Nat) (k : Int) (Vl_38 : Vt), BV Vl_38 → (0 ≤ k) → (k ≤ 6) → (Vl_38 = up V 3 w (fun b => V 3 w b - sm k (fun p => b2i (V 7 w ((fnd (V 4 w 3) (fun k => V 5 w k = state)) * 6 + p) = b)))) → (6 - k : Int).toNat < fuel → Kz X G P Vl_38 0 0 [some (.ref (ad G 0 w)), some (.int (iI state)), some (.int (iI (fnd (V 4 w 3) (fun k => V 5 w k = state)))), some (.int (iI (sm 40 (fun b => b2i (0 < V 3 w b))))), some (.int (iI k))] 38 [] := by
        intro fuel
        induction fuel with
        | zero => intro k Vl_38 hBl_38 hk0 hk1 hVl hf_38; exact absurd hf_38 (Nat.not_lt_zero _)
        | succ fuel ih_38 =>
          intro k Vl_38 hBl_38 hk0 hk1 hVl hf_38
          have g4 : Vl_38 4 w = V 4 w := by rw [hVl]; rfl
          have g43 : Vl_38 4 w 3 = V 4 w 3 := by rw [g4]
          have g7 : Vl_38 7 w = V 7 w := by rw [hVl]; rfl
          have hLl : ∀ j, 0 ≤ Vl_38 7 w j ∧ Vl_38 7 w j < 40 := by rw [g7]; exact hL
          have hUl : ∀ j, -6 ≤ Vl_38 3 w j ∧ Vl_38 3 w j ≤ 500 := by intro j; rw [hVl, up_s]; have z1 := hU j; have z2 := sm_b2i_bd (n := k) (p := fun p => V 7 w ((fnd (V 4 w 3) (fun k => V 5 w k = state)) * 6 + p) = j) hk0; omega
          refine z_iload E dX4_forgetState_38 rfl ?_
          refine z_bipush E dX4_forgetState_40 rfl ?_
          refine z_icmp_ge E 69 dX4_forgetState_42 rfl (by omega) (by omega) (fun c_7 => ?_) (fun c_7 => ?_)
          · skip
            refine z_aload_n E dX4_forgetState_69 0 rfl rfl ?_
            refine z_get E (ci := 4) (N := 6) (C := RX4) (T := TX4) (vl_w (by decide) hw) rfl rfl iX4 1 (by decide) rfl f0 rfl dX4_forgetState_70 ?_
            refine z_iload_n E dX4_forgetState_73 2 rfl rfl ?_
            refine z_callV E (ci := 3) (N := 5) (C := RX3) (T := TX3) (n := 1) (st := []) (vl_w (by decide) hw) rfl rfl [.int (iI (fnd (V 4 w 3) (fun k => V 5 w k = state)))] (kX3_remove l G P Vl_38 w (fnd (V 4 w 3) (fun k => V 5 w k = state)) hw hBl_38 (by omega) (by omega) (by omega) (by omega)) gX4_forgetState_X3_remove rfl ⟨rfl, rfl⟩ (by decide +kernel) ⟨Nat.le_of_ble_eq_true rfl, Nat.le_of_ble_eq_true rfl⟩ rfl rfl (Nat.le_of_ble_eq_true rfl) rfl dX4_forgetState_74 (z_exV (fun P_8 V_8 h_8 => ?_))
            obtain ⟨hP_8, hB_8, h_8⟩ := h_8
            rw [hP_8]
            have w_r := h_8
            refine z_iload_n E dX4_forgetState_77 3 rfl rfl ?_
            refine z_aload_n E dX4_forgetState_78 0 rfl rfl ?_
            refine z_get E (ci := 4) (N := 6) (C := RX4) (T := TX4) (vl_w (by decide) hw) rfl rfl iX4 0 (by decide) rfl f1 rfl dX4_forgetState_79 ?_
            refine z_callV E (ci := 0) (N := 4) (C := RX0) (T := TX0) (n := 0) (st := [.int (iI (sm 40 (fun b => b2i (0 < V 3 w b))))]) (vl_w (by decide) hw) rfl rfl [] (kX0_there l G P V_8 w  hw hB_8) gX4_forgetState_X0_there rfl ⟨rfl, rfl⟩ (by decide +kernel) ⟨Nat.le_of_ble_eq_true rfl, Nat.le_of_ble_eq_true rfl⟩ rfl rfl (Nat.le_of_ble_eq_true rfl) rfl dX4_forgetState_82 (z_dtI ?_)
            have h_9a := sm_b2i_bd (n := 40) (p := fun b => 0 < V_8 3 w b) (by omega)
            refine z_isub E dX4_forgetState_85 ?_
            exact z_iret E Er0 dX4_forgetState_86 (⟨rfl, hB_8, (by omega), Or.inr (Or.inr ⟨by assumption, by rw [w_r, hVl, show k = 6 by omega] <;> rfl, rfl⟩)⟩)
          · skip
            refine z_aload_n E dX4_forgetState_45 0 rfl rfl ?_
            refine z_get E (ci := 4) (N := 6) (C := RX4) (T := TX4) (vl_w (by decide) hw) rfl rfl iX4 0 (by decide) rfl f1 rfl dX4_forgetState_46 ?_
            refine z_aload_n E dX4_forgetState_49 0 rfl rfl ?_
            refine z_get E (ci := 4) (N := 6) (C := RX4) (T := TX4) (vl_w (by decide) hw) rfl rfl iX4 1 (by decide) rfl f0 rfl dX4_forgetState_50 ?_
            refine z_iload_n E dX4_forgetState_53 2 rfl rfl ?_
            refine z_iload E dX4_forgetState_54 rfl ?_
            refine z_callV E (ci := 3) (N := 5) (C := RX3) (T := TX3) (n := 2) (st := [.ref (ad G 1 w)]) (vl_w (by decide) hw) rfl rfl [.int (iI (fnd (V 4 w 3) (fun k => V 5 w k = state))), .int (iI k)] (kX3_block l G P Vl_38 w (fnd (V 4 w 3) (fun k => V 5 w k = state)) k hw hBl_38 (by omega) (by omega) hLl (by omega) (by omega) (by omega) (by omega)) gX4_forgetState_X3_block rfl ⟨rfl, rfl⟩ (by decide +kernel) ⟨Nat.le_of_ble_eq_true rfl, Nat.le_of_ble_eq_true rfl⟩ rfl rfl (Nat.le_of_ble_eq_true rfl) rfl dX4_forgetState_56 (z_dtI ?_)
            have h_10a := hLl ((fnd (V 4 w 3) (fun k => V 5 w k = state)) * 6 + k)
            rw [g7] at h_10a ⊢
            refine z_iconst E dX4_forgetState_59 ?_
            refine z_callV E (ci := 0) (N := 4) (C := RX0) (T := TX0) (n := 2) (st := []) (vl_w (by decide) hw) rfl rfl [.int (iI (V 7 w ((fnd (V 4 w 3) (fun k => V 5 w k = state)) * 6 + k))), .int (iI (-1))] (kX0_addUses l G P Vl_38 w (V 7 w ((fnd (V 4 w 3) (fun k => V 5 w k = state)) * 6 + k)) (-1) hw hBl_38 (by omega) (by omega) (by have z := hUl ((V 7 w ((fnd (V 4 w 3) (fun k => V 5 w k = state)) * 6 + k))); omega)) gX4_forgetState_X0_addUses rfl ⟨rfl, rfl⟩ (by decide +kernel) ⟨Nat.le_of_ble_eq_true rfl, Nat.le_of_ble_eq_true rfl⟩ rfl rfl (Nat.le_of_ble_eq_true rfl) rfl dX4_forgetState_60 (z_exV (fun P_11 V_11 h_11 => ?_))
            obtain ⟨hP_11, hB_11, h_11⟩ := h_11
            rw [hP_11]
            have w_u := h_11
            refine z_iinc E k dX4_forgetState_63 (L' := [some (.ref (ad G 0 w)), some (.int (iI state)), some (.int (iI (fnd (V 4 w 3) (fun k => V 5 w k = state)))), some (.int (iI (sm 40 (fun b => b2i (0 < V 3 w b))))), some (.int (iI (k + 1)))]) (Nat.le_of_ble_eq_true rfl) rfl rfl ?_
            refine z_goto E 38 dX4_forgetState_66 rfl ?_
            exact ih_38 (k + 1) V_11 hB_11 (by omega) (by omega) (by rw [w_u, hVl, up_s, dc_s hk0]; exact upup _ _ _ _ _) (by omega)
      exact lp_38_6 ((6 - 0 : Int).toNat + 1) 0 V hB (by omega) (by omega) (by rw [dc_0]; exact up_self.symm) (Nat.lt_succ_self _)
    · skip
      refine z_ldc E (-1000002) f2 rfl dX4_forgetState_24 ?_
      exact z_iret E Er0 dX4_forgetState_26 (⟨rfl, hB, (by omega), Or.inr (Or.inl ⟨by omega, by assumption, rfl, rfl⟩)⟩)
  · skip
    refine z_ldc E (-1000001) f3 rfl dX4_forgetState_13 ?_
    exact z_iret E Er0 dX4_forgetState_15 (⟨rfl, hB, (by omega), Or.inl ⟨rfl, by omega, rfl⟩⟩)

set_option maxHeartbeats 4000000 in
set_option maxRecDepth 100000 in
theorem kX4_shareBlocks (l : Launch) (G : Gl) (P : Nat → Nat) (V : Vt) (w : Nat) (hw : w < 6) (hB : BV V) (hn0 : 0 ≤ V 4 w 3) (hn1 : V 4 w 3 ≤ 16) (hL : ∀ j, 0 ≤ V 7 w j ∧ V 7 w j < 40) (hU : ∀ j, 0 ≤ V 3 w j ∧ V 3 w j ≤ 500) : Met l yX4_shareBlocks wsX4_shareBlocks ({ frames := 2, cells := 0, slots := 0, locals := 47 }) (va_Pc [.ref (ad G 0 w)] (Sg G P V)) (Qk G mkI (fun r P' V' => P' = P ∧ BV V' ∧ inR r ∧ shareQ V w  r V')) 0 0 (mem G) := by
  refine z_met (cc := cX4_shareBlocks) (nL := 5) (ret := (some .int)) (own := RX4) (by decide +kernel) rfl rfl (Nat.le_of_ble_eq_true rfl) (L := [some (.ref (ad G 0 w)), none, none, none, none]) rfl ?_
  intro X E Er0
  have iX0 : ∀ x ∈ wsX00, x ∈ wsX4_shareBlocks := by decide +kernel
  have iX3 : ∀ x ∈ wsX30, x ∈ wsX4_shareBlocks := by decide +kernel
  have iX4 : ∀ x ∈ wsX40, x ∈ wsX4_shareBlocks := by decide +kernel
  have f0 : Cond.fieldLink RX4 12 "SharedStates$World" "blocks" "LSharedStates$Blocks;" ∈ wsX4_shareBlocks := by decide +kernel
  have f1 : Cond.fieldLink RX4 21 "SharedStates$World" "states" "LSharedStates$States;" ∈ wsX4_shareBlocks := by decide +kernel
  have f2 : Cond.fieldLink RX4 116 "SharedStates$States" "size" "I" ∈ wsX4_shareBlocks := by decide +kernel
  have f3 : Cond.fieldLink RX4 138 "SharedStates$States" "places" "[I" ∈ wsX4_shareBlocks := by decide +kernel
  have f4 : Cond.fieldLink RX4 161 "SharedStates$Blocks" "cells" "[I" ∈ wsX4_shareBlocks := by decide +kernel
  refine z_aload_n E dX4_shareBlocks_0 0 rfl rfl ?_
  refine z_get E (ci := 4) (N := 6) (C := RX4) (T := TX4) (vl_w (by decide) hw) rfl rfl iX4 0 (by decide) rfl f0 rfl dX4_shareBlocks_1 ?_
  refine z_callV E (ci := 0) (N := 4) (C := RX0) (T := TX0) (n := 0) (st := []) (vl_w (by decide) hw) rfl rfl [] (kX0_there l G P V w  hw hB) gX4_shareBlocks_X0_there rfl ⟨rfl, rfl⟩ (by decide +kernel) ⟨Nat.le_of_ble_eq_true rfl, Nat.le_of_ble_eq_true rfl⟩ rfl rfl (Nat.le_of_ble_eq_true rfl) rfl dX4_shareBlocks_4 (z_dtI ?_)
  have h_1a := sm_b2i_bd (n := 40) (p := fun b => 0 < V 3 w b) (by omega)
  refine z_istore_n E dX4_shareBlocks_7 1 rfl (L' := [some (.ref (ad G 0 w)), some (.int (iI (sm 40 (fun b => b2i (0 < V 3 w b))))), none, none, none]) (Nat.le_of_ble_eq_true rfl) rfl ?_
  refine z_iconst E dX4_shareBlocks_8 ?_
  refine z_istore_n E dX4_shareBlocks_9 2 rfl (L' := [some (.ref (ad G 0 w)), some (.int (iI (sm 40 (fun b => b2i (0 < V 3 w b))))), some (.int (iI 0)), none, none]) (Nat.le_of_ble_eq_true rfl) rfl ?_
  have lp_10_2 : ∀ (fuel : Nat) (i : Int) (Vl_10 : Vt), BV Vl_10 → (0 ≤ i) → (i ≤ V 4 w 3 * 6) → (shC w V i.toNat Vl_10) → (∀ r, ¬ r = 3 → ¬ r = 7 → Vl_10 r w = V r w) → (∀ j, 0 ≤ Vl_10 7 w j ∧ Vl_10 7 w j < 40) → (∀ j, -(2 * i) ≤ Vl_10 3 w j ∧ Vl_10 3 w j ≤ 500 + 2 * i) → (V 4 w 3 * 6 - i : Int).toNat < fuel → Kz X G P Vl_10 0 0 [some (.ref (ad G 0 w)), some (.int (iI (sm 40 (fun b => b2i (0 < V 3 w b))))), some (.int (iI i)), none, none] 10 [] := by
    intro fuel
    induction fuel with
    | zero => intro i Vl_10 hBl_10 hk0 hk1 hch hfr hLl hUl hf_10; exact absurd hf_10 (Nat.not_lt_zero _)
    | succ fuel ih_10 =>
      intro i Vl_10 hBl_10 hk0 hk1 hch hfr hLl hUl hf_10
      have g43 : Vl_10 4 w 3 = V 4 w 3 := by rw [hfr 4 (by decide) (by decide)]
      refine z_iload_n E dX4_shareBlocks_10 2 rfl rfl ?_
      refine z_aload_n E dX4_shareBlocks_11 0 rfl rfl ?_
      refine z_get E (ci := 4) (N := 6) (C := RX4) (T := TX4) (vl_w (by decide) hw) rfl rfl iX4 1 (by decide) rfl f1 rfl dX4_shareBlocks_12 ?_
      have hr_3 := hBl_10.g 4 w 3 rfl
      refine z_get E (ci := 3) (N := 5) (C := RX3) (T := TX3) (vl_w (by decide) hw) rfl rfl iX3 3 (by decide) rfl f2 rfl dX4_shareBlocks_15 ?_
      refine z_bipush E dX4_shareBlocks_18 rfl ?_
      refine z_imul E dX4_shareBlocks_20 ?_
      refine z_icmp_ge E 101 dX4_shareBlocks_21 rfl (by omega) (by omega) (fun c_4 => ?_) (fun c_4 => ?_)
      · skip
        refine z_iload_n E dX4_shareBlocks_101 1 rfl rfl ?_
        refine z_aload_n E dX4_shareBlocks_102 0 rfl rfl ?_
        refine z_get E (ci := 4) (N := 6) (C := RX4) (T := TX4) (vl_w (by decide) hw) rfl rfl iX4 0 (by decide) rfl f0 rfl dX4_shareBlocks_103 ?_
        refine z_callV E (ci := 0) (N := 4) (C := RX0) (T := TX0) (n := 0) (st := [.int (iI (sm 40 (fun b => b2i (0 < V 3 w b))))]) (vl_w (by decide) hw) rfl rfl [] (kX0_there l G P Vl_10 w  hw hBl_10) gX4_shareBlocks_X0_there rfl ⟨rfl, rfl⟩ (by decide +kernel) ⟨Nat.le_of_ble_eq_true rfl, Nat.le_of_ble_eq_true rfl⟩ rfl rfl (Nat.le_of_ble_eq_true rfl) rfl dX4_shareBlocks_106 (z_dtI ?_)
        have h_5a := sm_b2i_bd (n := 40) (p := fun b => 0 < Vl_10 3 w b) (by omega)
        refine z_isub E dX4_shareBlocks_109 ?_
        exact z_iret E Er0 dX4_shareBlocks_110 (⟨rfl, hBl_10, (by omega), by rw [show (V 4 w 3 * 6) = i by omega]; exact hch, rfl⟩)
      · skip
        refine z_aload_n E dX4_shareBlocks_24 0 rfl rfl ?_
        refine z_get E (ci := 4) (N := 6) (C := RX4) (T := TX4) (vl_w (by decide) hw) rfl rfl iX4 1 (by decide) rfl f1 rfl dX4_shareBlocks_25 ?_
        refine z_get E (ci := 3) (N := 5) (C := RX3) (T := TX3) (vl_w (by decide) hw) rfl rfl iX3 2 (by decide) rfl f3 rfl dX4_shareBlocks_28 ?_
        refine z_iload_n E dX4_shareBlocks_31 2 rfl rfl ?_
        have hbk := hLl i
        refine z_iald E (vl_w (by decide) hw) 96 rfl (by omega) (by omega) (by omega) dX4_shareBlocks_32 ?_
        have hr_6 := hBl_10.g 7 w i rfl
        refine z_istore_n E dX4_shareBlocks_33 3 rfl (L' := [some (.ref (ad G 0 w)), some (.int (iI (sm 40 (fun b => b2i (0 < V 3 w b))))), some (.int (iI i)), some (.int (iI (Vl_10 7 w i))), none]) (Nat.le_of_ble_eq_true rfl) rfl ?_
        refine z_aload_n E dX4_shareBlocks_34 0 rfl rfl ?_
        refine z_get E (ci := 4) (N := 6) (C := RX4) (T := TX4) (vl_w (by decide) hw) rfl rfl iX4 0 (by decide) rfl f0 rfl dX4_shareBlocks_35 ?_
        refine z_aload_n E dX4_shareBlocks_38 0 rfl rfl ?_
        refine z_get E (ci := 4) (N := 6) (C := RX4) (T := TX4) (vl_w (by decide) hw) rfl rfl iX4 0 (by decide) rfl f0 rfl dX4_shareBlocks_39 ?_
        refine z_get E (ci := 0) (N := 4) (C := RX0) (T := TX0) (vl_w (by decide) hw) rfl rfl iX0 0 (by decide) rfl f4 rfl dX4_shareBlocks_42 ?_
        refine z_iload_n E dX4_shareBlocks_45 3 rfl rfl ?_
        refine z_bipush E dX4_shareBlocks_46 rfl ?_
        refine z_imul E dX4_shareBlocks_48 ?_
        refine z_callV E (ci := 0) (N := 4) (C := RX0) (T := TX0) (n := 2) (st := []) (vl_w (by decide) hw) rfl rfl [.ref (ad G 2 w), .int (iI ((Vl_10 7 w i) * 8))] (kX0_lowestHolding l G P Vl_10 w 2 320 ((Vl_10 7 w i) * 8) hw hBl_10 (by omega) (by omega) (by omega)) gX4_shareBlocks_X0_lowestHolding rfl ⟨rfl, rfl⟩ (by decide +kernel) ⟨Nat.le_of_ble_eq_true rfl, Nat.le_of_ble_eq_true rfl⟩ rfl rfl (Nat.le_of_ble_eq_true rfl) rfl dX4_shareBlocks_49 (z_dtI ?_)
        have h_7a := fnd_bd 40 (fun b => Vl_10 3 w b ≠ 0 ∧ eq8 (Vl_10 2 w) (Vl_10 2 w) (b * 8) ((Vl_10 7 w i) * 8)) (by omega)
        refine z_istore E dX4_shareBlocks_52 (L' := [some (.ref (ad G 0 w)), some (.int (iI (sm 40 (fun b => b2i (0 < V 3 w b))))), some (.int (iI i)), some (.int (iI (Vl_10 7 w i))), some (.int (iI (fnd 40 (fun b => Vl_10 3 w b ≠ 0 ∧ eq8 (Vl_10 2 w) (Vl_10 2 w) (b * 8) ((Vl_10 7 w i) * 8)))))]) (Nat.le_of_ble_eq_true rfl) rfl ?_
        refine z_iload E dX4_shareBlocks_54 rfl ?_
        refine z_if_lt E 95 dX4_shareBlocks_56 rfl (by omega) (fun c_8 => ?_) (fun c_8 => ?_)
        · skip
          refine z_iinc E i dX4_shareBlocks_95 (L' := [some (.ref (ad G 0 w)), some (.int (iI (sm 40 (fun b => b2i (0 < V 3 w b))))), some (.int (iI (i + 1))), some (.int (iI (Vl_10 7 w i))), some (.int (iI (fnd 40 (fun b => Vl_10 3 w b ≠ 0 ∧ eq8 (Vl_10 2 w) (Vl_10 2 w) (b * 8) ((Vl_10 7 w i) * 8)))))]) (Nat.le_of_ble_eq_true rfl) rfl rfl ?_
          refine z_goto E 10 dX4_shareBlocks_98 rfl ?_
          refine Kz.drop 3 (L' := [some (.ref (ad G 0 w)), some (.int (iI (sm 40 (fun b => b2i (0 < V 3 w b))))), some (.int (iI (i + 1))), none, some (.int (iI (fnd 40 (fun b => Vl_10 3 w b ≠ 0 ∧ eq8 (Vl_10 2 w) (Vl_10 2 w) (b * 8) ((Vl_10 7 w i) * 8)))))]) rfl ?_
          refine Kz.drop 4 (L' := [some (.ref (ad G 0 w)), some (.int (iI (sm 40 (fun b => b2i (0 < V 3 w b))))), some (.int (iI (i + 1))), none, none]) rfl ?_
          have shr : shR w Vl_10 i.toNat Vl_10 := by unfold shR shF; rw [Int.toNat_of_nonneg hk0]; first | exact Or.inr ⟨by omega, rfl⟩ | exact Or.inl ⟨by assumption, by assumption, by rw [w_b, w_a, upup, up_s] <;> rfl⟩
          exact ih_10 (i + 1) Vl_10 hBl_10 (by omega) (by omega) (by rw [show (i + 1).toNat = i.toNat + 1 by omega]; exact ⟨Vl_10, hch, shr⟩) (fun r z3 z7 => (shR_fr shr r z3 z7).trans (hfr r z3 z7)) (shR_L shr hLl) (fun j => by have := shR_U shr hUl j; omega) (by omega)
        · skip
          refine z_iload E dX4_shareBlocks_59 rfl ?_
          refine z_iload_n E dX4_shareBlocks_61 3 rfl rfl ?_
          refine z_icmp_ge E 95 dX4_shareBlocks_62 rfl (by omega) (by omega) (fun c_9 => ?_) (fun c_9 => ?_)
          · skip
            refine z_iinc E i dX4_shareBlocks_95 (L' := [some (.ref (ad G 0 w)), some (.int (iI (sm 40 (fun b => b2i (0 < V 3 w b))))), some (.int (iI (i + 1))), some (.int (iI (Vl_10 7 w i))), some (.int (iI (fnd 40 (fun b => Vl_10 3 w b ≠ 0 ∧ eq8 (Vl_10 2 w) (Vl_10 2 w) (b * 8) ((Vl_10 7 w i) * 8)))))]) (Nat.le_of_ble_eq_true rfl) rfl rfl ?_
            refine z_goto E 10 dX4_shareBlocks_98 rfl ?_
            refine Kz.drop 3 (L' := [some (.ref (ad G 0 w)), some (.int (iI (sm 40 (fun b => b2i (0 < V 3 w b))))), some (.int (iI (i + 1))), none, some (.int (iI (fnd 40 (fun b => Vl_10 3 w b ≠ 0 ∧ eq8 (Vl_10 2 w) (Vl_10 2 w) (b * 8) ((Vl_10 7 w i) * 8)))))]) rfl ?_
            refine Kz.drop 4 (L' := [some (.ref (ad G 0 w)), some (.int (iI (sm 40 (fun b => b2i (0 < V 3 w b))))), some (.int (iI (i + 1))), none, none]) rfl ?_
            have shr : shR w Vl_10 i.toNat Vl_10 := by unfold shR shF; rw [Int.toNat_of_nonneg hk0]; first | exact Or.inr ⟨by omega, rfl⟩ | exact Or.inl ⟨by assumption, by assumption, by rw [w_b, w_a, upup, up_s] <;> rfl⟩
            exact ih_10 (i + 1) Vl_10 hBl_10 (by omega) (by omega) (by rw [show (i + 1).toNat = i.toNat + 1 by omega]; exact ⟨Vl_10, hch, shr⟩) (fun r z3 z7 => (shR_fr shr r z3 z7).trans (hfr r z3 z7)) (shR_L shr hLl) (fun j => by have := shR_U shr hUl j; omega) (by omega)
          · skip
            refine z_aload_n E dX4_shareBlocks_65 0 rfl rfl ?_
            refine z_get E (ci := 4) (N := 6) (C := RX4) (T := TX4) (vl_w (by decide) hw) rfl rfl iX4 0 (by decide) rfl f0 rfl dX4_shareBlocks_66 ?_
            refine z_iload_n E dX4_shareBlocks_69 3 rfl rfl ?_
            refine z_iconst E dX4_shareBlocks_70 ?_
            refine z_callV E (ci := 0) (N := 4) (C := RX0) (T := TX0) (n := 2) (st := []) (vl_w (by decide) hw) rfl rfl [.int (iI (Vl_10 7 w i)), .int (iI (-1))] (kX0_addUses l G P Vl_10 w (Vl_10 7 w i) (-1) hw hBl_10 (by omega) (by omega) (by have z := hUl ((Vl_10 7 w i)); omega)) gX4_shareBlocks_X0_addUses rfl ⟨rfl, rfl⟩ (by decide +kernel) ⟨Nat.le_of_ble_eq_true rfl, Nat.le_of_ble_eq_true rfl⟩ rfl rfl (Nat.le_of_ble_eq_true rfl) rfl dX4_shareBlocks_71 (z_exV (fun P_10 V_10 h_10 => ?_))
            obtain ⟨hP_10, hB_10, h_10⟩ := h_10
            rw [hP_10]
            have w_a := h_10
            refine z_aload_n E dX4_shareBlocks_74 0 rfl rfl ?_
            refine z_get E (ci := 4) (N := 6) (C := RX4) (T := TX4) (vl_w (by decide) hw) rfl rfl iX4 0 (by decide) rfl f0 rfl dX4_shareBlocks_75 ?_
            refine z_iload E dX4_shareBlocks_78 rfl ?_
            refine z_iconst E dX4_shareBlocks_80 ?_
            refine z_callV E (ci := 0) (N := 4) (C := RX0) (T := TX0) (n := 2) (st := []) (vl_w (by decide) hw) rfl rfl [.int (iI (fnd 40 (fun b => Vl_10 3 w b ≠ 0 ∧ eq8 (Vl_10 2 w) (Vl_10 2 w) (b * 8) ((Vl_10 7 w i) * 8)))), .int (iI 1)] (kX0_addUses l G P V_10 w (fnd 40 (fun b => Vl_10 3 w b ≠ 0 ∧ eq8 (Vl_10 2 w) (Vl_10 2 w) (b * 8) ((Vl_10 7 w i) * 8))) 1 hw hB_10 (by omega) (by omega) (by have z := hUl ((fnd 40 (fun b => Vl_10 3 w b ≠ 0 ∧ eq8 (Vl_10 2 w) (Vl_10 2 w) (b * 8) ((Vl_10 7 w i) * 8)))); have z2 := updI_b (f := Vl_10 3 w) (i := Vl_10 7 w i) (x := Vl_10 3 w (Vl_10 7 w i) + (-1)) ((fnd 40 (fun b => Vl_10 3 w b ≠ 0 ∧ eq8 (Vl_10 2 w) (Vl_10 2 w) (b * 8) ((Vl_10 7 w i) * 8)))); have z3 := hUl (Vl_10 7 w i); rw [w_a, up_s]; omega)) gX4_shareBlocks_X0_addUses rfl ⟨rfl, rfl⟩ (by decide +kernel) ⟨Nat.le_of_ble_eq_true rfl, Nat.le_of_ble_eq_true rfl⟩ rfl rfl (Nat.le_of_ble_eq_true rfl) rfl dX4_shareBlocks_81 (z_exV (fun P_11 V_11 h_11 => ?_))
            obtain ⟨hP_11, hB_11, h_11⟩ := h_11
            rw [hP_11]
            have w_b := h_11
            have g43b : V_11 4 w 3 = V 4 w 3 := by rw [h_11, w_a]; exact g43
            refine z_aload_n E dX4_shareBlocks_84 0 rfl rfl ?_
            refine z_get E (ci := 4) (N := 6) (C := RX4) (T := TX4) (vl_w (by decide) hw) rfl rfl iX4 1 (by decide) rfl f1 rfl dX4_shareBlocks_85 ?_
            refine z_get E (ci := 3) (N := 5) (C := RX3) (T := TX3) (vl_w (by decide) hw) rfl rfl iX3 2 (by decide) rfl f3 rfl dX4_shareBlocks_88 ?_
            refine z_iload_n E dX4_shareBlocks_91 2 rfl rfl ?_
            refine z_iload E dX4_shareBlocks_92 rfl ?_
            refine z_iast E (vl_w (by decide) hw) 96 (fun _ => rfl) (by omega) (by omega) (by omega) dX4_shareBlocks_94 ?_
            obtain ⟨V12, hV12⟩ : ∃ Z : Vt, Z = up V_11 7 w (updI (V_11 7 w) i (fnd 40 (fun b => Vl_10 3 w b ≠ 0 ∧ eq8 (Vl_10 2 w) (Vl_10 2 w) (b * 8) ((Vl_10 7 w i) * 8)))) := ⟨_, rfl⟩
            rw [← hV12]
            have hB12 : BV V12 := hV12 ▸ BV_up hB_11 (by intro _; omega)
            refine z_iinc E i dX4_shareBlocks_95 (L' := [some (.ref (ad G 0 w)), some (.int (iI (sm 40 (fun b => b2i (0 < V 3 w b))))), some (.int (iI (i + 1))), some (.int (iI (Vl_10 7 w i))), some (.int (iI (fnd 40 (fun b => Vl_10 3 w b ≠ 0 ∧ eq8 (Vl_10 2 w) (Vl_10 2 w) (b * 8) ((Vl_10 7 w i) * 8)))))]) (Nat.le_of_ble_eq_true rfl) rfl rfl ?_
            refine z_goto E 10 dX4_shareBlocks_98 rfl ?_
            refine Kz.drop 3 (L' := [some (.ref (ad G 0 w)), some (.int (iI (sm 40 (fun b => b2i (0 < V 3 w b))))), some (.int (iI (i + 1))), none, some (.int (iI (fnd 40 (fun b => Vl_10 3 w b ≠ 0 ∧ eq8 (Vl_10 2 w) (Vl_10 2 w) (b * 8) ((Vl_10 7 w i) * 8)))))]) rfl ?_
            refine Kz.drop 4 (L' := [some (.ref (ad G 0 w)), some (.int (iI (sm 40 (fun b => b2i (0 < V 3 w b))))), some (.int (iI (i + 1))), none, none]) rfl ?_
            have shr : shR w Vl_10 i.toNat V12 := by unfold shR shF; rw [Int.toNat_of_nonneg hk0]; first | exact Or.inr ⟨by omega, rfl⟩ | exact Or.inl ⟨by assumption, by assumption, by rw [hV12, w_b, w_a, upup, up_s] <;> rfl⟩
            exact ih_10 (i + 1) V12 hB12 (by omega) (by omega) (by rw [show (i + 1).toNat = i.toNat + 1 by omega]; exact ⟨Vl_10, hch, shr⟩) (fun r z3 z7 => (shR_fr shr r z3 z7).trans (hfr r z3 z7)) (shR_L shr hLl) (fun j => by have := shR_U shr hUl j; omega) (by omega)
  exact lp_10_2 ((V 4 w 3 * 6 - 0 : Int).toNat + 1) 0 V hB (by omega) (by omega) rfl (fun _ _ _ => rfl) hL (fun j => by have := hU j; omega) (Nat.lt_succ_self _)

set_option maxHeartbeats 4000000 in
set_option maxRecDepth 100000 in
theorem kX4_changeSetting (l : Launch) (G : Gl) (P : Nat → Nat) (V : Vt) (w : Nat) (what : Int) (value : Int) (hw : w < 6) (hB : BV V) (a1 : inR what) (a2 : inR value) : Met l yX4_changeSetting wsX4_changeSetting ({ frames := 1, cells := 0, slots := 0, locals := 21 }) (va_Pc [.ref (ad G 0 w), .int (iI what), .int (iI value)] (Sg G P V)) (Qk G mkI (fun r P' V' => P' = P ∧ BV V' ∧ inR r ∧ setQ V w what value r V')) 0 0 (mem G) := by
  refine z_met (cc := cX4_changeSetting) (nL := 4) (ret := (some .int)) (own := RX4) (by decide +kernel) rfl rfl (Nat.le_of_ble_eq_true rfl) (L := [some (.ref (ad G 0 w)), some (.int (iI what)), some (.int (iI value)), none]) rfl ?_
  intro X E Er0
  have iX4 : ∀ x ∈ wsX40, x ∈ wsX4_changeSetting := by decide +kernel
  have f0 : Cond.constant RX4 101 (-1000001) ∈ wsX4_changeSetting := by decide +kernel
  have f1 : Cond.static yX5_isIndex ∈ wsX4_changeSetting := by decide +kernel
  have f2 : Cond.initialized RX5 ∈ wsX4_changeSetting := by decide +kernel
  have f3 : Cond.fieldLink RX4 32 "SharedStates$World" "sharing" "I" ∈ wsX4_changeSetting := by decide +kernel
  refine z_iload_n E dX4_changeSetting_0 1 rfl rfl ?_
  refine z_if_ne E 12 dX4_changeSetting_1 rfl (by omega) (fun c_1 => ?_) (fun c_1 => ?_)
  · skip
    refine z_ldc E (-1000001) f0 rfl dX4_changeSetting_12 ?_
    exact z_iret E Er0 dX4_changeSetting_14 (⟨rfl, hB, (by omega), Or.inl ⟨rfl, by omega, rfl⟩⟩)
  · skip
    refine z_iload_n E dX4_changeSetting_4 2 rfl rfl ?_
    refine z_iconst E dX4_changeSetting_5 ?_
    refine z_callN E (n := 2) (st := []) (host := "SharedStates") [.int (iI value), .int (iI 2)] (fun U h => nst_X4_52 h) f1 f2 (kX5_isIndex l G P V value 2 (by omega) (by omega)) gX4_changeSetting_X5_isIndex_n52 rfl ⟨rfl, rfl⟩ (by decide +kernel) ⟨Nat.le_of_ble_eq_true rfl, Nat.le_of_ble_eq_true rfl⟩ rfl rfl (Nat.le_of_ble_eq_true rfl) rfl dX4_changeSetting_6 (z_dtI ?_)
    refine z_ifne_b E 15 dX4_changeSetting_9 rfl (fun c_3 => ?_) (fun c_3 => ?_)
    · skip
      refine z_aload_n E dX4_changeSetting_15 0 rfl rfl ?_
      have hr_4 := hB.g0 w
      refine z_get E (ci := 4) (N := 6) (C := RX4) (T := TX4) (vl_w (by decide) hw) rfl rfl iX4 4 (by decide) rfl f3 rfl dX4_changeSetting_16 ?_
      refine z_istore_n E dX4_changeSetting_19 3 rfl (L' := [some (.ref (ad G 0 w)), some (.int (iI what)), some (.int (iI value)), some (.int (iI (V 0 w 4)))]) (Nat.le_of_ble_eq_true rfl) rfl ?_
      refine z_aload_n E dX4_changeSetting_20 0 rfl rfl ?_
      refine z_iload_n E dX4_changeSetting_21 2 rfl rfl ?_
      refine z_put E (ci := 4) (N := 6) (C := RX4) (T := TX4) (ty := .int) (vl_w (by decide) hw) (updI (V 0 w) 4 value) rfl rfl iX4 tyX4 tyX4_ok nmX4 4 (by decide) rfl f3 rfl rfl rfl rfl (Nat.le_of_ble_eq_true rfl) rfl dX4_changeSetting_22 ?_
      obtain ⟨V5, hV5⟩ : ∃ Z : Vt, Z = up V 0 w (updI (V 0 w) 4 value) := ⟨_, rfl⟩
      rw [← hV5]
      have hB5 : BV V5 := hV5 ▸ BV_up hB (by intro _; omega)
      refine z_iload_n E dX4_changeSetting_25 3 rfl rfl ?_
      exact z_iret E Er0 dX4_changeSetting_26 (⟨rfl, hB5, (by omega), Or.inr ⟨by omega, rfl, hV5⟩⟩)
    · skip
      refine z_ldc E (-1000001) f0 rfl dX4_changeSetting_12 ?_
      exact z_iret E Er0 dX4_changeSetting_14 (⟨rfl, hB, (by omega), Or.inl ⟨rfl, by omega, rfl⟩⟩)
