set_option maxHeartbeats 4000000 in
set_option maxRecDepth 100000 in
theorem kX0_init (l : Launch) (G : Gl) (h sz : Nat) : Met l yX0_init wsX0_init ({ frames := 1, cells := 2, slots := 360, locals := 20 }) (va_Pc [.ref h] (Sn G h (.inr (0, [.null, .null, .int (iI 0), .int (iI 0)])) sz)) (Qn G h sz (shX0 G h)) 2 360 (frC h sz) := by
  refine n_met (cc := cX0_init) (nL := 1) (own := RX0) (by decide +kernel) rfl rfl rfl (Nat.le_of_ble_eq_true rfl) (L := [some (.ref h)]) rfl ?_
  intro X E E2
  have iX0 : ∀ x ∈ wsX00, x ∈ wsX0_init := by decide +kernel
  have f0 : Cond.methodLink RX0 3 objectInit ∈ wsX0_init := by decide +kernel
  have f1 : Cond.instanceMethod objectInit ∈ wsX0_init := by decide +kernel
  have f2 : Cond.code objectInit ⟨#[0xb1]⟩ 1 none ∈ wsX0_init := by decide +kernel
  have f3 : Cond.arrayClass .int ∈ wsX0_init := by decide +kernel
  have f4 : Cond.fieldLink RX0 9 "SharedStates$Blocks" "cells" "[I" ∈ wsX0_init := by decide +kernel
  have f5 : Cond.fieldLink RX0 15 "SharedStates$Blocks" "uses" "[I" ∈ wsX0_init := by decide +kernel
  have f6 : Cond.fieldLink RX0 18 "SharedStates$Blocks" "made" "I" ∈ wsX0_init := by decide +kernel
  have f7 : Cond.fieldLink RX0 22 "SharedStates$Blocks" "taken" "I" ∈ wsX0_init := by decide +kernel
  refine n_aload_n E dX0_init_0 0 rfl rfl ?_
  refine n_obj E f0 f1 f2 rfl (Nat.le_of_ble_eq_true rfl) ⟨Nat.le_of_ble_eq_true rfl, Nat.le_of_ble_eq_true rfl⟩ dX0_init_1 ?_
  refine n_aload_n E dX0_init_4 0 rfl rfl ?_
  refine n_sipush E dX0_init_5 rfl ?_
  refine n_newa E f3 320 rfl (Nat.le_of_ble_eq_true rfl) 1 320 rfl rfl (Nat.le_of_ble_eq_true rfl) (Nat.le_of_ble_eq_true rfl) dX0_init_8 (fun q1 => ?_)
  refine Kn.eq (ws' := [(h, .inr (0, [.null, .null, .int (iI 0), .int (iI 0)])), (q1, .inl (gI G, 320, .inl (fun _ => 0)))]) rfl ?_
  refine n_putF E E2 (ci := 0) (fs := [.null, .null, .int (iI 0), .int (iI 0)]) (N := 4) (C := RX0) (T := TX0) iX0 tyX0 tyX0_ok nmX0 0 rfl rfl 0 (by decide) rfl f4 rfl rfl (tyX0_ok 0 (by decide)) rfl rfl (Nat.le_of_ble_eq_true rfl) (ws' := [(h, .inr (0, [.ref q1, .null, .int (iI 0), .int (iI 0)])), (q1, .inl (gI G, 320, .inl (fun _ => 0)))]) rfl dX0_init_10 ?_
  refine n_aload_n E dX0_init_13 0 rfl rfl ?_
  refine n_bipush E dX0_init_14 rfl ?_
  refine n_newa E f3 40 rfl (Nat.le_of_ble_eq_true rfl) 2 360 rfl rfl (Nat.le_of_ble_eq_true rfl) (Nat.le_of_ble_eq_true rfl) dX0_init_16 (fun q2 => ?_)
  refine Kn.eq (ws' := [(h, .inr (0, [.ref q1, .null, .int (iI 0), .int (iI 0)])), (q1, .inl (gI G, 320, .inl (fun _ => 0))), (q2, .inl (gI G, 40, .inl (fun _ => 0)))]) rfl ?_
  refine n_putF E E2 (ci := 0) (fs := [.ref q1, .null, .int (iI 0), .int (iI 0)]) (N := 4) (C := RX0) (T := TX0) iX0 tyX0 tyX0_ok nmX0 0 rfl rfl 1 (by decide) rfl f5 rfl rfl (tyX0_ok 1 (by decide)) rfl rfl (Nat.le_of_ble_eq_true rfl) (ws' := [(h, .inr (0, [.ref q1, .ref q2, .int (iI 0), .int (iI 0)])), (q1, .inl (gI G, 320, .inl (fun _ => 0))), (q2, .inl (gI G, 40, .inl (fun _ => 0)))]) rfl dX0_init_18 ?_
  refine n_aload_n E dX0_init_21 0 rfl rfl ?_
  refine n_iconst E dX0_init_22 ?_
  refine n_put E (ci := 0) (fs := [.ref q1, .ref q2, .int (iI 0), .int (iI 0)]) (N := 4) (C := RX0) (T := TX0) iX0 tyX0 tyX0_ok nmX0 0 rfl rfl 2 (by decide) rfl f6 rfl (tyX0_ok 2 (by decide)) rfl rfl (Nat.le_of_ble_eq_true rfl) (ws' := [(h, .inr (0, [.ref q1, .ref q2, .int (iI 1), .int (iI 0)])), (q1, .inl (gI G, 320, .inl (fun _ => 0))), (q2, .inl (gI G, 40, .inl (fun _ => 0)))]) rfl dX0_init_23 ?_
  refine n_aload_n E dX0_init_26 0 rfl rfl ?_
  refine n_iconst E dX0_init_27 ?_
  refine n_put E (ci := 0) (fs := [.ref q1, .ref q2, .int (iI 1), .int (iI 0)]) (N := 4) (C := RX0) (T := TX0) iX0 tyX0 tyX0_ok nmX0 0 rfl rfl 3 (by decide) rfl f7 rfl (tyX0_ok 3 (by decide)) rfl rfl (Nat.le_of_ble_eq_true rfl) (ws' := [(h, .inr (0, [.ref q1, .ref q2, .int (iI 1), .int (iI 0)])), (q1, .inl (gI G, 320, .inl (fun _ => 0))), (q2, .inl (gI G, 40, .inl (fun _ => 0)))]) rfl dX0_init_28 ?_
  refine n_aload_n E dX0_init_31 0 rfl rfl ?_
  refine n_get E (ci := 0) (fs := [.ref q1, .ref q2, .int (iI 1), .int (iI 0)]) (N := 4) (C := RX0) (T := TX0) iX0 0 rfl rfl 1 (by decide) rfl f5 (v := .ref q2) rfl dX0_init_32 ?_
  refine n_iconst E dX0_init_35 ?_
  refine n_bipush E dX0_init_36 rfl ?_
  refine n_iast E 2 (f := fun _ => 0) rfl (by decide) (by decide) (by decide) (ws' := [(h, .inr (0, [.ref q1, .ref q2, .int (iI 1), .int (iI 0)])), (q1, .inl (gI G, 320, .inl (fun _ => 0))), (q2, .inl (gI G, 40, .inl (upd (fun _ => 0) 0 (iI 6))))]) rfl dX0_init_38 ?_
  exact n_vret E E2 rfl rfl (⟨fun r => match r with | 1 => h | 2 => q1 | _ => q2, rfl, rfl⟩) dX0_init_39

set_option maxHeartbeats 4000000 in
set_option maxRecDepth 100000 in
theorem kX3_init (l : Launch) (G : Gl) (h sz : Nat) : Met l yX3_init wsX3_init ({ frames := 1, cells := 3, slots := 128, locals := 20 }) (va_Pc [.ref h] (Sn G h (.inr (3, [.null, .null, .null, .int (iI 0), .int (iI 0)])) sz)) (Qn G h sz (shX3 G h)) 3 128 (frC h sz) := by
  refine n_met (cc := cX3_init) (nL := 1) (own := RX3) (by decide +kernel) rfl rfl rfl (Nat.le_of_ble_eq_true rfl) (L := [some (.ref h)]) rfl ?_
  intro X E E2
  have iX3 : ∀ x ∈ wsX30, x ∈ wsX3_init := by decide +kernel
  have f0 : Cond.methodLink RX3 3 objectInit ∈ wsX3_init := by decide +kernel
  have f1 : Cond.instanceMethod objectInit ∈ wsX3_init := by decide +kernel
  have f2 : Cond.code objectInit ⟨#[0xb1]⟩ 1 none ∈ wsX3_init := by decide +kernel
  have f3 : Cond.arrayClass .int ∈ wsX3_init := by decide +kernel
  have f4 : Cond.fieldLink RX3 9 "SharedStates$States" "numbers" "[I" ∈ wsX3_init := by decide +kernel
  have f5 : Cond.fieldLink RX3 15 "SharedStates$States" "parents" "[I" ∈ wsX3_init := by decide +kernel
  have f6 : Cond.fieldLink RX3 18 "SharedStates$States" "places" "[I" ∈ wsX3_init := by decide +kernel
  have f7 : Cond.fieldLink RX3 21 "SharedStates$States" "size" "I" ∈ wsX3_init := by decide +kernel
  have f8 : Cond.fieldLink RX3 25 "SharedStates$States" "made" "I" ∈ wsX3_init := by decide +kernel
  refine n_aload_n E dX3_init_0 0 rfl rfl ?_
  refine n_obj E f0 f1 f2 rfl (Nat.le_of_ble_eq_true rfl) ⟨Nat.le_of_ble_eq_true rfl, Nat.le_of_ble_eq_true rfl⟩ dX3_init_1 ?_
  refine n_aload_n E dX3_init_4 0 rfl rfl ?_
  refine n_bipush E dX3_init_5 rfl ?_
  refine n_newa E f3 16 rfl (Nat.le_of_ble_eq_true rfl) 1 16 rfl rfl (Nat.le_of_ble_eq_true rfl) (Nat.le_of_ble_eq_true rfl) dX3_init_7 (fun q1 => ?_)
  refine Kn.eq (ws' := [(h, .inr (3, [.null, .null, .null, .int (iI 0), .int (iI 0)])), (q1, .inl (gI G, 16, .inl (fun _ => 0)))]) rfl ?_
  refine n_putF E E2 (ci := 3) (fs := [.null, .null, .null, .int (iI 0), .int (iI 0)]) (N := 5) (C := RX3) (T := TX3) iX3 tyX3 tyX3_ok nmX3 0 rfl rfl 0 (by decide) rfl f4 rfl rfl (tyX3_ok 0 (by decide)) rfl rfl (Nat.le_of_ble_eq_true rfl) (ws' := [(h, .inr (3, [.ref q1, .null, .null, .int (iI 0), .int (iI 0)])), (q1, .inl (gI G, 16, .inl (fun _ => 0)))]) rfl dX3_init_9 ?_
  refine n_aload_n E dX3_init_12 0 rfl rfl ?_
  refine n_bipush E dX3_init_13 rfl ?_
  refine n_newa E f3 16 rfl (Nat.le_of_ble_eq_true rfl) 2 32 rfl rfl (Nat.le_of_ble_eq_true rfl) (Nat.le_of_ble_eq_true rfl) dX3_init_15 (fun q2 => ?_)
  refine Kn.eq (ws' := [(h, .inr (3, [.ref q1, .null, .null, .int (iI 0), .int (iI 0)])), (q1, .inl (gI G, 16, .inl (fun _ => 0))), (q2, .inl (gI G, 16, .inl (fun _ => 0)))]) rfl ?_
  refine n_putF E E2 (ci := 3) (fs := [.ref q1, .null, .null, .int (iI 0), .int (iI 0)]) (N := 5) (C := RX3) (T := TX3) iX3 tyX3 tyX3_ok nmX3 0 rfl rfl 1 (by decide) rfl f5 rfl rfl (tyX3_ok 1 (by decide)) rfl rfl (Nat.le_of_ble_eq_true rfl) (ws' := [(h, .inr (3, [.ref q1, .ref q2, .null, .int (iI 0), .int (iI 0)])), (q1, .inl (gI G, 16, .inl (fun _ => 0))), (q2, .inl (gI G, 16, .inl (fun _ => 0)))]) rfl dX3_init_17 ?_
  refine n_aload_n E dX3_init_20 0 rfl rfl ?_
  refine n_bipush E dX3_init_21 rfl ?_
  refine n_newa E f3 96 rfl (Nat.le_of_ble_eq_true rfl) 3 128 rfl rfl (Nat.le_of_ble_eq_true rfl) (Nat.le_of_ble_eq_true rfl) dX3_init_23 (fun q3 => ?_)
  refine Kn.eq (ws' := [(h, .inr (3, [.ref q1, .ref q2, .null, .int (iI 0), .int (iI 0)])), (q1, .inl (gI G, 16, .inl (fun _ => 0))), (q2, .inl (gI G, 16, .inl (fun _ => 0))), (q3, .inl (gI G, 96, .inl (fun _ => 0)))]) rfl ?_
  refine n_putF E E2 (ci := 3) (fs := [.ref q1, .ref q2, .null, .int (iI 0), .int (iI 0)]) (N := 5) (C := RX3) (T := TX3) iX3 tyX3 tyX3_ok nmX3 0 rfl rfl 2 (by decide) rfl f6 rfl rfl (tyX3_ok 2 (by decide)) rfl rfl (Nat.le_of_ble_eq_true rfl) (ws' := [(h, .inr (3, [.ref q1, .ref q2, .ref q3, .int (iI 0), .int (iI 0)])), (q1, .inl (gI G, 16, .inl (fun _ => 0))), (q2, .inl (gI G, 16, .inl (fun _ => 0))), (q3, .inl (gI G, 96, .inl (fun _ => 0)))]) rfl dX3_init_25 ?_
  refine n_aload_n E dX3_init_28 0 rfl rfl ?_
  refine n_iconst E dX3_init_29 ?_
  refine n_put E (ci := 3) (fs := [.ref q1, .ref q2, .ref q3, .int (iI 0), .int (iI 0)]) (N := 5) (C := RX3) (T := TX3) iX3 tyX3 tyX3_ok nmX3 0 rfl rfl 3 (by decide) rfl f7 rfl (tyX3_ok 3 (by decide)) rfl rfl (Nat.le_of_ble_eq_true rfl) (ws' := [(h, .inr (3, [.ref q1, .ref q2, .ref q3, .int (iI 1), .int (iI 0)])), (q1, .inl (gI G, 16, .inl (fun _ => 0))), (q2, .inl (gI G, 16, .inl (fun _ => 0))), (q3, .inl (gI G, 96, .inl (fun _ => 0)))]) rfl dX3_init_30 ?_
  refine n_aload_n E dX3_init_33 0 rfl rfl ?_
  refine n_iconst E dX3_init_34 ?_
  refine n_put E (ci := 3) (fs := [.ref q1, .ref q2, .ref q3, .int (iI 1), .int (iI 0)]) (N := 5) (C := RX3) (T := TX3) iX3 tyX3 tyX3_ok nmX3 0 rfl rfl 4 (by decide) rfl f8 rfl (tyX3_ok 4 (by decide)) rfl rfl (Nat.le_of_ble_eq_true rfl) (ws' := [(h, .inr (3, [.ref q1, .ref q2, .ref q3, .int (iI 1), .int (iI 1)])), (q1, .inl (gI G, 16, .inl (fun _ => 0))), (q2, .inl (gI G, 16, .inl (fun _ => 0))), (q3, .inl (gI G, 96, .inl (fun _ => 0)))]) rfl dX3_init_35 ?_
  refine n_aload_n E dX3_init_38 0 rfl rfl ?_
  refine n_get E (ci := 3) (fs := [.ref q1, .ref q2, .ref q3, .int (iI 1), .int (iI 1)]) (N := 5) (C := RX3) (T := TX3) iX3 0 rfl rfl 1 (by decide) rfl f5 (v := .ref q2) rfl dX3_init_39 ?_
  refine n_iconst E dX3_init_42 ?_
  refine n_iconst E dX3_init_43 ?_
  refine n_iast E 2 (f := fun _ => 0) rfl (by decide) (by decide) (by decide) (ws' := [(h, .inr (3, [.ref q1, .ref q2, .ref q3, .int (iI 1), .int (iI 1)])), (q1, .inl (gI G, 16, .inl (fun _ => 0))), (q2, .inl (gI G, 16, .inl (upd (fun _ => 0) 0 (iI (-1))))), (q3, .inl (gI G, 96, .inl (fun _ => 0)))]) rfl dX3_init_44 ?_
  exact n_vret E E2 rfl rfl (⟨fun r => match r with | 4 => h | 5 => q1 | 6 => q2 | _ => q3, rfl, rfl⟩) dX3_init_45

set_option maxHeartbeats 4000000 in
set_option maxRecDepth 100000 in
theorem kX4_init (l : Launch) (G : Gl) (h sz : Nat) : Met l yX4_init wsX4_init ({ frames := 2, cells := 9, slots := 549, locals := 40 }) (va_Pc [.ref h] (Sn G h (.inr (4, [.null, .null, .null, .null, .int (iI 0), .int (iI 0)])) sz)) (Qn G h sz (shX4 G h)) 9 549 (frC h sz) := by
  refine n_met (cc := cX4_init) (nL := 2) (own := RX4) (by decide +kernel) rfl rfl rfl (Nat.le_of_ble_eq_true rfl) (L := [some (.ref h), none]) rfl ?_
  intro X E E2
  have iX0 : ∀ x ∈ wsX00, x ∈ wsX4_init := by decide +kernel
  have iX3 : ∀ x ∈ wsX30, x ∈ wsX4_init := by decide +kernel
  have iX4 : ∀ x ∈ wsX40, x ∈ wsX4_init := by decide +kernel
  have f0 : Cond.methodLink RX4 3 objectInit ∈ wsX4_init := by decide +kernel
  have f1 : Cond.instanceMethod objectInit ∈ wsX4_init := by decide +kernel
  have f2 : Cond.code objectInit ⟨#[0xb1]⟩ 1 none ∈ wsX4_init := by decide +kernel
  have f3 : Cond.classLink RX4 9 RX0 ∈ wsX4_init := by decide +kernel
  have f4 : Cond.instantiable RX0 4 ∈ wsX4_init := by decide +kernel
  have f5 : Cond.initialized RX0 ∈ wsX4_init := by decide +kernel
  have f6 : Cond.methodLink RX4 11 yX0_init ∈ wsX4_init := by decide +kernel
  have f7 : Cond.instanceMethod yX0_init ∈ wsX4_init := by decide +kernel
  have f8 : Cond.fieldLink RX4 12 "SharedStates$World" "blocks" "LSharedStates$Blocks;" ∈ wsX4_init := by decide +kernel
  have f9 : Cond.classLink RX4 18 RX3 ∈ wsX4_init := by decide +kernel
  have f10 : Cond.instantiable RX3 5 ∈ wsX4_init := by decide +kernel
  have f11 : Cond.initialized RX3 ∈ wsX4_init := by decide +kernel
  have f12 : Cond.methodLink RX4 20 yX3_init ∈ wsX4_init := by decide +kernel
  have f13 : Cond.instanceMethod yX3_init ∈ wsX4_init := by decide +kernel
  have f14 : Cond.fieldLink RX4 21 "SharedStates$World" "states" "LSharedStates$States;" ∈ wsX4_init := by decide +kernel
  have f15 : Cond.arrayClass .int ∈ wsX4_init := by decide +kernel
  have f16 : Cond.fieldLink RX4 25 "SharedStates$World" "heads" "[I" ∈ wsX4_init := by decide +kernel
  have f17 : Cond.fieldLink RX4 29 "SharedStates$World" "draft" "[I" ∈ wsX4_init := by decide +kernel
  have f18 : Cond.fieldLink RX4 32 "SharedStates$World" "sharing" "I" ∈ wsX4_init := by decide +kernel
  have f19 : Cond.fieldLink RX4 36 "SharedStates$World" "conflictsSoFar" "I" ∈ wsX4_init := by decide +kernel
  refine n_aload_n E dX4_init_0 0 rfl rfl ?_
  refine n_obj E f0 f1 f2 rfl (Nat.le_of_ble_eq_true rfl) ⟨Nat.le_of_ble_eq_true rfl, Nat.le_of_ble_eq_true rfl⟩ dX4_init_1 ?_
  refine n_aload_n E dX4_init_4 0 rfl rfl ?_
  refine n_new E iX0 tyX0 tyX0_ok f3 f4 f5 (ci := 0) (fs := [.null, .null, .int (iI 0), .int (iI 0)]) rfl (fun j hj => by rcases (show j = 0 ∨ j = 1 ∨ j = 2 ∨ j = 3 by omega) with rfl | rfl | rfl | rfl <;> rfl) 1 4 rfl rfl (Nat.le_of_ble_eq_true rfl) (Nat.le_of_ble_eq_true rfl) dX4_init_5 (fun q1 => ?_)
  refine n_dup E dX4_init_8 rfl ?_
  refine n_call E (wr := [(h, .inr (4, [.null, .null, .null, .null, .int (iI 0), .int (iI 0)]))]) (q := q1) (e0 := .inr (0, [.null, .null, .int (iI 0), .int (iI 0)])) (st := [.ref q1, .ref h]) (L := [some (.ref h), none]) (fun sz' => kX0_init l G q1 sz') gX4_init_X0_init rfl ⟨rfl, rfl⟩ f5 f6 f7 rfl (by decide +kernel) ⟨Nat.le_of_ble_eq_true rfl, Nat.le_of_ble_eq_true rfl⟩ rfl (Nat.le_of_ble_eq_true rfl) 3 364 rfl rfl ⟨Nat.le_of_ble_eq_true rfl, Nat.le_of_ble_eq_true rfl⟩ dX4_init_9 (fun w1 hw1 => ?_)
  obtain ⟨a2, ha, rfl⟩ := hw1
  subst ha
  refine Kn.eq (ws' := [(h, .inr (4, [.null, .null, .null, .null, .int (iI 0), .int (iI 0)]))] ++ eB G a2) rfl ?_
  refine n_putF E E2 (ci := 4) (fs := [.null, .null, .null, .null, .int (iI 0), .int (iI 0)]) (N := 6) (C := RX4) (T := TX4) iX4 tyX4 tyX4_ok nmX4 0 rfl rfl 0 (by decide) rfl f8 rfl rfl (tyX4_ok 0 (by decide)) rfl rfl (Nat.le_of_ble_eq_true rfl) (ws' := [(h, .inr (4, [.ref (a2 1), .null, .null, .null, .int (iI 0), .int (iI 0)]))] ++ eB G a2) rfl dX4_init_12 ?_
  refine n_aload_n E dX4_init_15 0 rfl rfl ?_
  refine n_new E iX3 tyX3 tyX3_ok f9 f10 f11 (ci := 3) (fs := [.null, .null, .null, .int (iI 0), .int (iI 0)]) rfl (fun j hj => by rcases (show j = 0 ∨ j = 1 ∨ j = 2 ∨ j = 3 ∨ j = 4 by omega) with rfl | rfl | rfl | rfl | rfl <;> rfl) 4 369 rfl rfl (Nat.le_of_ble_eq_true rfl) (Nat.le_of_ble_eq_true rfl) dX4_init_16 (fun q3 => ?_)
  refine n_dup E dX4_init_19 rfl ?_
  refine n_call E (wr := [(h, .inr (4, [.ref (a2 1), .null, .null, .null, .int (iI 0), .int (iI 0)]))] ++ eB G a2) (q := q3) (e0 := .inr (3, [.null, .null, .null, .int (iI 0), .int (iI 0)])) (st := [.ref q3, .ref h]) (L := [some (.ref h), none]) (fun sz' => kX3_init l G q3 sz') gX4_init_X3_init rfl ⟨rfl, rfl⟩ f11 f12 f13 rfl (by decide +kernel) ⟨Nat.le_of_ble_eq_true rfl, Nat.le_of_ble_eq_true rfl⟩ rfl (Nat.le_of_ble_eq_true rfl) 7 497 rfl rfl ⟨Nat.le_of_ble_eq_true rfl, Nat.le_of_ble_eq_true rfl⟩ dX4_init_20 (fun w1 hw1 => ?_)
  obtain ⟨a4, ha, rfl⟩ := hw1
  subst ha
  refine Kn.eq (ws' := [(h, .inr (4, [.ref (a2 1), .null, .null, .null, .int (iI 0), .int (iI 0)]))] ++ eB G a2 ++ eS G a4) rfl ?_
  refine n_putF E E2 (ci := 4) (fs := [.ref (a2 1), .null, .null, .null, .int (iI 0), .int (iI 0)]) (N := 6) (C := RX4) (T := TX4) iX4 tyX4 tyX4_ok nmX4 0 rfl rfl 1 (by decide) rfl f14 rfl rfl (tyX4_ok 1 (by decide)) rfl rfl (Nat.le_of_ble_eq_true rfl) (ws' := [(h, .inr (4, [.ref (a2 1), .ref (a4 4), .null, .null, .int (iI 0), .int (iI 0)]))] ++ eB G a2 ++ eS G a4) rfl dX4_init_23 ?_
  refine n_aload_n E dX4_init_26 0 rfl rfl ?_
  refine n_iconst E dX4_init_27 ?_
  refine n_newa E f15 4 rfl (Nat.le_of_ble_eq_true rfl) 8 501 rfl rfl (Nat.le_of_ble_eq_true rfl) (Nat.le_of_ble_eq_true rfl) dX4_init_28 (fun q5 => ?_)
  refine Kn.eq (ws' := [(h, .inr (4, [.ref (a2 1), .ref (a4 4), .null, .null, .int (iI 0), .int (iI 0)]))] ++ eB G a2 ++ eS G a4 ++ [(q5, .inl (gI G, 4, .inl (fun _ => 0)))]) rfl ?_
  refine n_putF E E2 (ci := 4) (fs := [.ref (a2 1), .ref (a4 4), .null, .null, .int (iI 0), .int (iI 0)]) (N := 6) (C := RX4) (T := TX4) iX4 tyX4 tyX4_ok nmX4 0 rfl rfl 2 (by decide) rfl f16 rfl rfl (tyX4_ok 2 (by decide)) rfl rfl (Nat.le_of_ble_eq_true rfl) (ws' := [(h, .inr (4, [.ref (a2 1), .ref (a4 4), .ref q5, .null, .int (iI 0), .int (iI 0)]))] ++ eB G a2 ++ eS G a4 ++ [(q5, .inl (gI G, 4, .inl (fun _ => 0)))]) rfl dX4_init_30 ?_
  refine n_aload_n E dX4_init_33 0 rfl rfl ?_
  refine n_bipush E dX4_init_34 rfl ?_
  refine n_newa E f15 48 rfl (Nat.le_of_ble_eq_true rfl) 9 549 rfl rfl (Nat.le_of_ble_eq_true rfl) (Nat.le_of_ble_eq_true rfl) dX4_init_36 (fun q6 => ?_)
  refine Kn.eq (ws' := [(h, .inr (4, [.ref (a2 1), .ref (a4 4), .ref q5, .null, .int (iI 0), .int (iI 0)]))] ++ eB G a2 ++ eS G a4 ++ [(q5, .inl (gI G, 4, .inl (fun _ => 0))), (q6, .inl (gI G, 48, .inl (fun _ => 0)))]) rfl ?_
  refine n_putF E E2 (ci := 4) (fs := [.ref (a2 1), .ref (a4 4), .ref q5, .null, .int (iI 0), .int (iI 0)]) (N := 6) (C := RX4) (T := TX4) iX4 tyX4 tyX4_ok nmX4 0 rfl rfl 3 (by decide) rfl f17 rfl rfl (tyX4_ok 3 (by decide)) rfl rfl (Nat.le_of_ble_eq_true rfl) (ws' := [(h, .inr (4, [.ref (a2 1), .ref (a4 4), .ref q5, .ref q6, .int (iI 0), .int (iI 0)]))] ++ eB G a2 ++ eS G a4 ++ [(q5, .inl (gI G, 4, .inl (fun _ => 0))), (q6, .inl (gI G, 48, .inl (fun _ => 0)))]) rfl dX4_init_38 ?_
  refine n_aload_n E dX4_init_41 0 rfl rfl ?_
  refine n_iconst E dX4_init_42 ?_
  refine n_put E (ci := 4) (fs := [.ref (a2 1), .ref (a4 4), .ref q5, .ref q6, .int (iI 0), .int (iI 0)]) (N := 6) (C := RX4) (T := TX4) iX4 tyX4 tyX4_ok nmX4 0 rfl rfl 4 (by decide) rfl f18 rfl (tyX4_ok 4 (by decide)) rfl rfl (Nat.le_of_ble_eq_true rfl) (ws' := [(h, .inr (4, [.ref (a2 1), .ref (a4 4), .ref q5, .ref q6, .int (iI 1), .int (iI 0)]))] ++ eB G a2 ++ eS G a4 ++ [(q5, .inl (gI G, 4, .inl (fun _ => 0))), (q6, .inl (gI G, 48, .inl (fun _ => 0)))]) rfl dX4_init_43 ?_
  refine n_aload_n E dX4_init_46 0 rfl rfl ?_
  refine n_iconst E dX4_init_47 ?_
  refine n_put E (ci := 4) (fs := [.ref (a2 1), .ref (a4 4), .ref q5, .ref q6, .int (iI 1), .int (iI 0)]) (N := 6) (C := RX4) (T := TX4) iX4 tyX4 tyX4_ok nmX4 0 rfl rfl 5 (by decide) rfl f19 rfl (tyX4_ok 5 (by decide)) rfl rfl (Nat.le_of_ble_eq_true rfl) (ws' := [(h, .inr (4, [.ref (a2 1), .ref (a4 4), .ref q5, .ref q6, .int (iI 1), .int (iI 0)]))] ++ eB G a2 ++ eS G a4 ++ [(q5, .inl (gI G, 4, .inl (fun _ => 0))), (q6, .inl (gI G, 48, .inl (fun _ => 0)))]) rfl dX4_init_48 ?_
  refine n_iconst E dX4_init_51 ?_
  refine n_istore_n E dX4_init_52 1 rfl (L' := [some (.ref h), some (.int (iI 1))]) (Nat.le_of_ble_eq_true rfl) rfl ?_
  refine n_iload_n E dX4_init_53 1 rfl rfl ?_
  refine n_iconst E dX4_init_54 ?_
  refine n_geF E 71 dX4_init_55 rfl (by decide) (by decide) (by decide) ?_
  refine n_aload_n E dX4_init_58 0 rfl rfl ?_
  refine n_get E (ci := 4) (fs := [.ref (a2 1), .ref (a4 4), .ref q5, .ref q6, .int (iI 1), .int (iI 0)]) (N := 6) (C := RX4) (T := TX4) iX4 0 rfl rfl 2 (by decide) rfl f16 (v := .ref q5) rfl dX4_init_59 ?_
  refine n_iload_n E dX4_init_62 1 rfl rfl ?_
  refine n_iconst E dX4_init_63 ?_
  refine n_iast E 8 (f := fun _ => 0) rfl (by decide) (by decide) (by decide) (ws' := [(h, .inr (4, [.ref (a2 1), .ref (a4 4), .ref q5, .ref q6, .int (iI 1), .int (iI 0)]))] ++ eB G a2 ++ eS G a4 ++ [(q5, .inl (gI G, 4, .inl (upd (fun _ => 0) 1 (iI (-1))))), (q6, .inl (gI G, 48, .inl (fun _ => 0)))]) rfl dX4_init_64 ?_
  refine n_iinc E 1 2 dX4_init_65 (L' := [some (.ref h), some (.int (iI 2))]) (Nat.le_of_ble_eq_true rfl) rfl rfl rfl ?_
  refine n_goto E 53 dX4_init_68 rfl ?_
  refine n_iload_n E dX4_init_53 1 rfl rfl ?_
  refine n_iconst E dX4_init_54 ?_
  refine n_geF E 71 dX4_init_55 rfl (by decide) (by decide) (by decide) ?_
  refine n_aload_n E dX4_init_58 0 rfl rfl ?_
  refine n_get E (ci := 4) (fs := [.ref (a2 1), .ref (a4 4), .ref q5, .ref q6, .int (iI 1), .int (iI 0)]) (N := 6) (C := RX4) (T := TX4) iX4 0 rfl rfl 2 (by decide) rfl f16 (v := .ref q5) rfl dX4_init_59 ?_
  refine n_iload_n E dX4_init_62 1 rfl rfl ?_
  refine n_iconst E dX4_init_63 ?_
  refine n_iast E 8 (f := upd (fun _ => 0) 1 (iI (-1))) rfl (by decide) (by decide) (by decide) (ws' := [(h, .inr (4, [.ref (a2 1), .ref (a4 4), .ref q5, .ref q6, .int (iI 1), .int (iI 0)]))] ++ eB G a2 ++ eS G a4 ++ [(q5, .inl (gI G, 4, .inl (upd (upd (fun _ => 0) 1 (iI (-1))) 2 (iI (-1))))), (q6, .inl (gI G, 48, .inl (fun _ => 0)))]) rfl dX4_init_64 ?_
  refine n_iinc E 2 3 dX4_init_65 (L' := [some (.ref h), some (.int (iI 3))]) (Nat.le_of_ble_eq_true rfl) rfl rfl rfl ?_
  refine n_goto E 53 dX4_init_68 rfl ?_
  refine n_iload_n E dX4_init_53 1 rfl rfl ?_
  refine n_iconst E dX4_init_54 ?_
  refine n_geF E 71 dX4_init_55 rfl (by decide) (by decide) (by decide) ?_
  refine n_aload_n E dX4_init_58 0 rfl rfl ?_
  refine n_get E (ci := 4) (fs := [.ref (a2 1), .ref (a4 4), .ref q5, .ref q6, .int (iI 1), .int (iI 0)]) (N := 6) (C := RX4) (T := TX4) iX4 0 rfl rfl 2 (by decide) rfl f16 (v := .ref q5) rfl dX4_init_59 ?_
  refine n_iload_n E dX4_init_62 1 rfl rfl ?_
  refine n_iconst E dX4_init_63 ?_
  refine n_iast E 8 (f := upd (upd (fun _ => 0) 1 (iI (-1))) 2 (iI (-1))) rfl (by decide) (by decide) (by decide) (ws' := [(h, .inr (4, [.ref (a2 1), .ref (a4 4), .ref q5, .ref q6, .int (iI 1), .int (iI 0)]))] ++ eB G a2 ++ eS G a4 ++ [(q5, .inl (gI G, 4, .inl (upd (upd (upd (fun _ => 0) 1 (iI (-1))) 2 (iI (-1))) 3 (iI (-1))))), (q6, .inl (gI G, 48, .inl (fun _ => 0)))]) rfl dX4_init_64 ?_
  refine n_iinc E 3 4 dX4_init_65 (L' := [some (.ref h), some (.int (iI 4))]) (Nat.le_of_ble_eq_true rfl) rfl rfl rfl ?_
  refine n_goto E 53 dX4_init_68 rfl ?_
  refine n_iload_n E dX4_init_53 1 rfl rfl ?_
  refine n_iconst E dX4_init_54 ?_
  refine n_geT E 71 dX4_init_55 rfl (by decide) (by decide) (by decide) ?_
  exact n_vret E E2 rfl rfl (⟨fun r => match r with | 0 => h | 1 => a2 1 | 2 => a2 2 | 3 => a2 3 | 4 => a4 4 | 5 => a4 5 | 6 => a4 6 | 7 => a4 7 | 8 => q5 | _ => q6, rfl, rfl⟩) dX4_init_71

set_option maxHeartbeats 4000000 in
set_option maxRecDepth 100000 in
theorem kX1_init (l : Launch) (G : Gl) (h sz : Nat) : Met l yX1_init wsX1_init ({ frames := 3, cells := 41, slots := 2224, locals := 61 }) (va_Pc [.ref h] (Sn G h (.inr (1, [.null, .int (iI 0), .int (iI 0)])) sz)) (Qn G h sz (shX1 G h)) 41 2224 (frC h sz) := by
  refine n_met (cc := cX1_init) (nL := 2) (own := RX1) (by decide +kernel) rfl rfl rfl (Nat.le_of_ble_eq_true rfl) (L := [some (.ref h), none]) rfl ?_
  intro X E E2
  have iX1 : ∀ x ∈ wsX10, x ∈ wsX1_init := by decide +kernel
  have iX4 : ∀ x ∈ wsX40, x ∈ wsX1_init := by decide +kernel
  have f0 : Cond.methodLink RX1 3 objectInit ∈ wsX1_init := by decide +kernel
  have f1 : Cond.instanceMethod objectInit ∈ wsX1_init := by decide +kernel
  have f2 : Cond.code objectInit ⟨#[0xb1]⟩ 1 none ∈ wsX1_init := by decide +kernel
  have f3 : Cond.classLink RX1 9 RX4 ∈ wsX1_init := by decide +kernel
  have f4 : Cond.fieldLink RX1 11 "SharedStates$History" "records" "[LSharedStates$World;" ∈ wsX1_init := by decide +kernel
  have f5 : Cond.fieldLink RX1 17 "SharedStates$History" "oldest" "I" ∈ wsX1_init := by decide +kernel
  have f6 : Cond.fieldLink RX1 21 "SharedStates$History" "size" "I" ∈ wsX1_init := by decide +kernel
  have f7 : Cond.instantiable RX4 6 ∈ wsX1_init := by decide +kernel
  have f8 : Cond.initialized RX4 ∈ wsX1_init := by decide +kernel
  have f9 : Cond.methodLink RX1 24 yX4_init ∈ wsX1_init := by decide +kernel
  have f10 : Cond.instanceMethod yX4_init ∈ wsX1_init := by decide +kernel
  refine n_aload_n E dX1_init_0 0 rfl rfl ?_
  refine n_obj E f0 f1 f2 rfl (Nat.le_of_ble_eq_true rfl) ⟨Nat.le_of_ble_eq_true rfl, Nat.le_of_ble_eq_true rfl⟩ dX1_init_1 ?_
  refine n_aload_n E dX1_init_4 0 rfl rfl ?_
  refine n_iconst E dX1_init_5 ?_
  refine n_newq E f3 4 rfl (Nat.le_of_ble_eq_true rfl) 1 4 rfl rfl (Nat.le_of_ble_eq_true rfl) (Nat.le_of_ble_eq_true rfl) dX1_init_6 (fun q1 => ?_)
  refine Kn.eq (ws' := [(h, .inr (1, [.null, .int (iI 0), .int (iI 0)])), (q1, .inl (gW G, 4, .inr (.inr (.inr (.inr (fun _ => none))))))]) rfl ?_
  refine n_putF E E2 (ci := 1) (fs := [.null, .int (iI 0), .int (iI 0)]) (N := 3) (C := RX1) (T := TX1) iX1 tyX1 tyX1_ok nmX1 0 rfl rfl 0 (by decide) rfl f4 rfl rfl (tyX1_ok 0 (by decide)) rfl rfl (Nat.le_of_ble_eq_true rfl) (ws' := [(h, .inr (1, [.ref q1, .int (iI 0), .int (iI 0)])), (q1, .inl (gW G, 4, .inr (.inr (.inr (.inr (fun _ => none))))))]) rfl dX1_init_9 ?_
  refine n_aload_n E dX1_init_12 0 rfl rfl ?_
  refine n_iconst E dX1_init_13 ?_
  refine n_put E (ci := 1) (fs := [.ref q1, .int (iI 0), .int (iI 0)]) (N := 3) (C := RX1) (T := TX1) iX1 tyX1 tyX1_ok nmX1 0 rfl rfl 1 (by decide) rfl f5 rfl (tyX1_ok 1 (by decide)) rfl rfl (Nat.le_of_ble_eq_true rfl) (ws' := [(h, .inr (1, [.ref q1, .int (iI 0), .int (iI 0)])), (q1, .inl (gW G, 4, .inr (.inr (.inr (.inr (fun _ => none))))))]) rfl dX1_init_14 ?_
  refine n_aload_n E dX1_init_17 0 rfl rfl ?_
  refine n_iconst E dX1_init_18 ?_
  refine n_put E (ci := 1) (fs := [.ref q1, .int (iI 0), .int (iI 0)]) (N := 3) (C := RX1) (T := TX1) iX1 tyX1 tyX1_ok nmX1 0 rfl rfl 2 (by decide) rfl f6 rfl (tyX1_ok 2 (by decide)) rfl rfl (Nat.le_of_ble_eq_true rfl) (ws' := [(h, .inr (1, [.ref q1, .int (iI 0), .int (iI 0)])), (q1, .inl (gW G, 4, .inr (.inr (.inr (.inr (fun _ => none))))))]) rfl dX1_init_19 ?_
  refine n_iconst E dX1_init_22 ?_
  refine n_istore_n E dX1_init_23 1 rfl (L' := [some (.ref h), some (.int (iI 0))]) (Nat.le_of_ble_eq_true rfl) rfl ?_
  refine n_iload_n E dX1_init_24 1 rfl rfl ?_
  refine n_iconst E dX1_init_25 ?_
  refine n_geF E 48 dX1_init_26 rfl (by decide) (by decide) (by decide) ?_
  refine n_aload_n E dX1_init_29 0 rfl rfl ?_
  refine n_get E (ci := 1) (fs := [.ref q1, .int (iI 0), .int (iI 0)]) (N := 3) (C := RX1) (T := TX1) iX1 0 rfl rfl 0 (by decide) rfl f4 (v := .ref q1) rfl dX1_init_30 ?_
  refine n_iload_n E dX1_init_33 1 rfl rfl ?_
  refine n_new E iX4 tyX4 tyX4_ok f3 f7 f8 (ci := 4) (fs := [.null, .null, .null, .null, .int (iI 0), .int (iI 0)]) rfl (fun j hj => by rcases (show j = 0 ∨ j = 1 ∨ j = 2 ∨ j = 3 ∨ j = 4 ∨ j = 5 by omega) with rfl | rfl | rfl | rfl | rfl | rfl <;> rfl) 2 10 rfl rfl (Nat.le_of_ble_eq_true rfl) (Nat.le_of_ble_eq_true rfl) dX1_init_34 (fun q2 => ?_)
  refine n_dup E dX1_init_37 rfl ?_
  refine n_call E (wr := [(h, .inr (1, [.ref q1, .int (iI 0), .int (iI 0)])), (q1, .inl (gW G, 4, .inr (.inr (.inr (.inr (fun _ => none))))))]) (q := q2) (e0 := .inr (4, [.null, .null, .null, .null, .int (iI 0), .int (iI 0)])) (st := [.ref q2, .int (iI 0), .ref q1]) (L := [some (.ref h), some (.int (iI 0))]) (fun sz' => kX4_init l G q2 sz') gX1_init_X4_init rfl ⟨rfl, rfl⟩ f8 f9 f10 rfl (by decide +kernel) ⟨Nat.le_of_ble_eq_true rfl, Nat.le_of_ble_eq_true rfl⟩ rfl (Nat.le_of_ble_eq_true rfl) 11 559 rfl rfl ⟨Nat.le_of_ble_eq_true rfl, Nat.le_of_ble_eq_true rfl⟩ dX1_init_38 (fun w1 hw1 => ?_)
  obtain ⟨a3, ha, rfl⟩ := hw1
  subst ha
  refine Kn.eq (ws' := [(h, .inr (1, [.ref q1, .int (iI 0), .int (iI 0)])), (q1, .inl (gW G, 4, .inr (.inr (.inr (.inr (fun _ => none))))))] ++ eW G a3) rfl ?_
  refine n_astq E 1 2 (f := fun _ => none) rfl rfl (by decide) (by decide) (by decide) (ws' := [(h, .inr (1, [.ref q1, .int (iI 0), .int (iI 0)])), (q1, .inl (gW G, 4, .inr (.inr (.inr (.inr (va_up (fun _ => none) 0 (some (a3 0))))))))] ++ eW G a3) rfl dX1_init_41 ?_
  refine n_iinc E 0 1 dX1_init_42 (L' := [some (.ref h), some (.int (iI 1))]) (Nat.le_of_ble_eq_true rfl) rfl rfl rfl ?_
  refine n_goto E 24 dX1_init_45 rfl ?_
  refine n_iload_n E dX1_init_24 1 rfl rfl ?_
  refine n_iconst E dX1_init_25 ?_
  refine n_geF E 48 dX1_init_26 rfl (by decide) (by decide) (by decide) ?_
  refine n_aload_n E dX1_init_29 0 rfl rfl ?_
  refine n_get E (ci := 1) (fs := [.ref q1, .int (iI 0), .int (iI 0)]) (N := 3) (C := RX1) (T := TX1) iX1 0 rfl rfl 0 (by decide) rfl f4 (v := .ref q1) rfl dX1_init_30 ?_
  refine n_iload_n E dX1_init_33 1 rfl rfl ?_
  refine n_new E iX4 tyX4 tyX4_ok f3 f7 f8 (ci := 4) (fs := [.null, .null, .null, .null, .int (iI 0), .int (iI 0)]) rfl (fun j hj => by rcases (show j = 0 ∨ j = 1 ∨ j = 2 ∨ j = 3 ∨ j = 4 ∨ j = 5 by omega) with rfl | rfl | rfl | rfl | rfl | rfl <;> rfl) 12 565 rfl rfl (Nat.le_of_ble_eq_true rfl) (Nat.le_of_ble_eq_true rfl) dX1_init_34 (fun q4 => ?_)
  refine n_dup E dX1_init_37 rfl ?_
  refine n_call E (wr := [(h, .inr (1, [.ref q1, .int (iI 0), .int (iI 0)])), (q1, .inl (gW G, 4, .inr (.inr (.inr (.inr (va_up (fun _ => none) 0 (some (a3 0))))))))] ++ eW G a3) (q := q4) (e0 := .inr (4, [.null, .null, .null, .null, .int (iI 0), .int (iI 0)])) (st := [.ref q4, .int (iI 1), .ref q1]) (L := [some (.ref h), some (.int (iI 1))]) (fun sz' => kX4_init l G q4 sz') gX1_init_X4_init rfl ⟨rfl, rfl⟩ f8 f9 f10 rfl (by decide +kernel) ⟨Nat.le_of_ble_eq_true rfl, Nat.le_of_ble_eq_true rfl⟩ rfl (Nat.le_of_ble_eq_true rfl) 21 1114 rfl rfl ⟨Nat.le_of_ble_eq_true rfl, Nat.le_of_ble_eq_true rfl⟩ dX1_init_38 (fun w1 hw1 => ?_)
  obtain ⟨a5, ha, rfl⟩ := hw1
  subst ha
  refine Kn.eq (ws' := [(h, .inr (1, [.ref q1, .int (iI 0), .int (iI 0)])), (q1, .inl (gW G, 4, .inr (.inr (.inr (.inr (va_up (fun _ => none) 0 (some (a3 0))))))))] ++ eW G a3 ++ eW G a5) rfl ?_
  refine n_astq E 1 12 (f := va_up (fun _ => none) 0 (some (a3 0))) rfl rfl (by decide) (by decide) (by decide) (ws' := [(h, .inr (1, [.ref q1, .int (iI 0), .int (iI 0)])), (q1, .inl (gW G, 4, .inr (.inr (.inr (.inr (va_up (va_up (fun _ => none) 0 (some (a3 0))) 1 (some (a5 0))))))))] ++ eW G a3 ++ eW G a5) rfl dX1_init_41 ?_
  refine n_iinc E 1 2 dX1_init_42 (L' := [some (.ref h), some (.int (iI 2))]) (Nat.le_of_ble_eq_true rfl) rfl rfl rfl ?_
  refine n_goto E 24 dX1_init_45 rfl ?_
  refine n_iload_n E dX1_init_24 1 rfl rfl ?_
  refine n_iconst E dX1_init_25 ?_
  refine n_geF E 48 dX1_init_26 rfl (by decide) (by decide) (by decide) ?_
  refine n_aload_n E dX1_init_29 0 rfl rfl ?_
  refine n_get E (ci := 1) (fs := [.ref q1, .int (iI 0), .int (iI 0)]) (N := 3) (C := RX1) (T := TX1) iX1 0 rfl rfl 0 (by decide) rfl f4 (v := .ref q1) rfl dX1_init_30 ?_
  refine n_iload_n E dX1_init_33 1 rfl rfl ?_
  refine n_new E iX4 tyX4 tyX4_ok f3 f7 f8 (ci := 4) (fs := [.null, .null, .null, .null, .int (iI 0), .int (iI 0)]) rfl (fun j hj => by rcases (show j = 0 ∨ j = 1 ∨ j = 2 ∨ j = 3 ∨ j = 4 ∨ j = 5 by omega) with rfl | rfl | rfl | rfl | rfl | rfl <;> rfl) 22 1120 rfl rfl (Nat.le_of_ble_eq_true rfl) (Nat.le_of_ble_eq_true rfl) dX1_init_34 (fun q6 => ?_)
  refine n_dup E dX1_init_37 rfl ?_
  refine n_call E (wr := [(h, .inr (1, [.ref q1, .int (iI 0), .int (iI 0)])), (q1, .inl (gW G, 4, .inr (.inr (.inr (.inr (va_up (va_up (fun _ => none) 0 (some (a3 0))) 1 (some (a5 0))))))))] ++ eW G a3 ++ eW G a5) (q := q6) (e0 := .inr (4, [.null, .null, .null, .null, .int (iI 0), .int (iI 0)])) (st := [.ref q6, .int (iI 2), .ref q1]) (L := [some (.ref h), some (.int (iI 2))]) (fun sz' => kX4_init l G q6 sz') gX1_init_X4_init rfl ⟨rfl, rfl⟩ f8 f9 f10 rfl (by decide +kernel) ⟨Nat.le_of_ble_eq_true rfl, Nat.le_of_ble_eq_true rfl⟩ rfl (Nat.le_of_ble_eq_true rfl) 31 1669 rfl rfl ⟨Nat.le_of_ble_eq_true rfl, Nat.le_of_ble_eq_true rfl⟩ dX1_init_38 (fun w1 hw1 => ?_)
  obtain ⟨a7, ha, rfl⟩ := hw1
  subst ha
  refine Kn.eq (ws' := [(h, .inr (1, [.ref q1, .int (iI 0), .int (iI 0)])), (q1, .inl (gW G, 4, .inr (.inr (.inr (.inr (va_up (va_up (fun _ => none) 0 (some (a3 0))) 1 (some (a5 0))))))))] ++ eW G a3 ++ eW G a5 ++ eW G a7) rfl ?_
  refine n_astq E 1 22 (f := va_up (va_up (fun _ => none) 0 (some (a3 0))) 1 (some (a5 0))) rfl rfl (by decide) (by decide) (by decide) (ws' := [(h, .inr (1, [.ref q1, .int (iI 0), .int (iI 0)])), (q1, .inl (gW G, 4, .inr (.inr (.inr (.inr (va_up (va_up (va_up (fun _ => none) 0 (some (a3 0))) 1 (some (a5 0))) 2 (some (a7 0))))))))] ++ eW G a3 ++ eW G a5 ++ eW G a7) rfl dX1_init_41 ?_
  refine n_iinc E 2 3 dX1_init_42 (L' := [some (.ref h), some (.int (iI 3))]) (Nat.le_of_ble_eq_true rfl) rfl rfl rfl ?_
  refine n_goto E 24 dX1_init_45 rfl ?_
  refine n_iload_n E dX1_init_24 1 rfl rfl ?_
  refine n_iconst E dX1_init_25 ?_
  refine n_geF E 48 dX1_init_26 rfl (by decide) (by decide) (by decide) ?_
  refine n_aload_n E dX1_init_29 0 rfl rfl ?_
  refine n_get E (ci := 1) (fs := [.ref q1, .int (iI 0), .int (iI 0)]) (N := 3) (C := RX1) (T := TX1) iX1 0 rfl rfl 0 (by decide) rfl f4 (v := .ref q1) rfl dX1_init_30 ?_
  refine n_iload_n E dX1_init_33 1 rfl rfl ?_
  refine n_new E iX4 tyX4 tyX4_ok f3 f7 f8 (ci := 4) (fs := [.null, .null, .null, .null, .int (iI 0), .int (iI 0)]) rfl (fun j hj => by rcases (show j = 0 ∨ j = 1 ∨ j = 2 ∨ j = 3 ∨ j = 4 ∨ j = 5 by omega) with rfl | rfl | rfl | rfl | rfl | rfl <;> rfl) 32 1675 rfl rfl (Nat.le_of_ble_eq_true rfl) (Nat.le_of_ble_eq_true rfl) dX1_init_34 (fun q8 => ?_)
  refine n_dup E dX1_init_37 rfl ?_
  refine n_call E (wr := [(h, .inr (1, [.ref q1, .int (iI 0), .int (iI 0)])), (q1, .inl (gW G, 4, .inr (.inr (.inr (.inr (va_up (va_up (va_up (fun _ => none) 0 (some (a3 0))) 1 (some (a5 0))) 2 (some (a7 0))))))))] ++ eW G a3 ++ eW G a5 ++ eW G a7) (q := q8) (e0 := .inr (4, [.null, .null, .null, .null, .int (iI 0), .int (iI 0)])) (st := [.ref q8, .int (iI 3), .ref q1]) (L := [some (.ref h), some (.int (iI 3))]) (fun sz' => kX4_init l G q8 sz') gX1_init_X4_init rfl ⟨rfl, rfl⟩ f8 f9 f10 rfl (by decide +kernel) ⟨Nat.le_of_ble_eq_true rfl, Nat.le_of_ble_eq_true rfl⟩ rfl (Nat.le_of_ble_eq_true rfl) 41 2224 rfl rfl ⟨Nat.le_of_ble_eq_true rfl, Nat.le_of_ble_eq_true rfl⟩ dX1_init_38 (fun w1 hw1 => ?_)
  obtain ⟨a9, ha, rfl⟩ := hw1
  subst ha
  refine Kn.eq (ws' := [(h, .inr (1, [.ref q1, .int (iI 0), .int (iI 0)])), (q1, .inl (gW G, 4, .inr (.inr (.inr (.inr (va_up (va_up (va_up (fun _ => none) 0 (some (a3 0))) 1 (some (a5 0))) 2 (some (a7 0))))))))] ++ eW G a3 ++ eW G a5 ++ eW G a7 ++ eW G a9) rfl ?_
  refine n_astq E 1 32 (f := va_up (va_up (va_up (fun _ => none) 0 (some (a3 0))) 1 (some (a5 0))) 2 (some (a7 0))) rfl rfl (by decide) (by decide) (by decide) (ws' := [(h, .inr (1, [.ref q1, .int (iI 0), .int (iI 0)])), (q1, .inl (gW G, 4, .inr (.inr (.inr (.inr (va_up (va_up (va_up (va_up (fun _ => none) 0 (some (a3 0))) 1 (some (a5 0))) 2 (some (a7 0))) 3 (some (a9 0))))))))] ++ eW G a3 ++ eW G a5 ++ eW G a7 ++ eW G a9) rfl dX1_init_41 ?_
  refine n_iinc E 3 4 dX1_init_42 (L' := [some (.ref h), some (.int (iI 4))]) (Nat.le_of_ble_eq_true rfl) rfl rfl rfl ?_
  refine n_goto E 24 dX1_init_45 rfl ?_
  refine n_iload_n E dX1_init_24 1 rfl rfl ?_
  refine n_iconst E dX1_init_25 ?_
  refine n_geT E 48 dX1_init_26 rfl (by decide) (by decide) (by decide) ?_
  exact n_vret E E2 rfl rfl (⟨q1, a3, a5, a7, a9, rfl⟩) dX1_init_48

set_option maxHeartbeats 4000000 in
set_option maxRecDepth 100000 in
theorem kX2_init (l : Launch) (G : Gl) (h sz : Nat) : Met l yX2_init wsX2_init ({ frames := 1, cells := 2, slots := 64, locals := 20 }) (va_Pc [.ref h] (Sn G h (.inr (2, [.null, .null, .int (iI 0), .int (iI 0), .int (iI 0), .int (iI 0), .int (iI 0), .int (iI 0)])) sz)) (Qn G h sz (shX2 G h)) 2 64 (frC h sz) := by
  refine n_met (cc := cX2_init) (nL := 1) (own := RX2) (by decide +kernel) rfl rfl rfl (Nat.le_of_ble_eq_true rfl) (L := [some (.ref h)]) rfl ?_
  intro X E E2
  have iX2 : ∀ x ∈ wsX20, x ∈ wsX2_init := by decide +kernel
  have f0 : Cond.methodLink RX2 3 objectInit ∈ wsX2_init := by decide +kernel
  have f1 : Cond.instanceMethod objectInit ∈ wsX2_init := by decide +kernel
  have f2 : Cond.code objectInit ⟨#[0xb1]⟩ 1 none ∈ wsX2_init := by decide +kernel
  have f3 : Cond.arrayClass .int ∈ wsX2_init := by decide +kernel
  have f4 : Cond.fieldLink RX2 9 "SharedStates$Orders" "signs" "[I" ∈ wsX2_init := by decide +kernel
  have f5 : Cond.fieldLink RX2 15 "SharedStates$Orders" "numbers" "[I" ∈ wsX2_init := by decide +kernel
  have f6 : Cond.fieldLink RX2 18 "SharedStates$Orders" "length" "I" ∈ wsX2_init := by decide +kernel
  have f7 : Cond.fieldLink RX2 22 "SharedStates$Orders" "position" "I" ∈ wsX2_init := by decide +kernel
  have f8 : Cond.fieldLink RX2 25 "SharedStates$Orders" "done" "I" ∈ wsX2_init := by decide +kernel
  have f9 : Cond.fieldLink RX2 28 "SharedStates$Orders" "faultPosition" "I" ∈ wsX2_init := by decide +kernel
  have f10 : Cond.fieldLink RX2 31 "SharedStates$Orders" "faultReason" "I" ∈ wsX2_init := by decide +kernel
  have f11 : Cond.fieldLink RX2 34 "SharedStates$Orders" "faultCause" "I" ∈ wsX2_init := by decide +kernel
  refine n_aload_n E dX2_init_0 0 rfl rfl ?_
  refine n_obj E f0 f1 f2 rfl (Nat.le_of_ble_eq_true rfl) ⟨Nat.le_of_ble_eq_true rfl, Nat.le_of_ble_eq_true rfl⟩ dX2_init_1 ?_
  refine n_aload_n E dX2_init_4 0 rfl rfl ?_
  refine n_bipush E dX2_init_5 rfl ?_
  refine n_newa E f3 60 rfl (Nat.le_of_ble_eq_true rfl) 1 60 rfl rfl (Nat.le_of_ble_eq_true rfl) (Nat.le_of_ble_eq_true rfl) dX2_init_7 (fun q1 => ?_)
  refine Kn.eq (ws' := [(h, .inr (2, [.null, .null, .int (iI 0), .int (iI 0), .int (iI 0), .int (iI 0), .int (iI 0), .int (iI 0)])), (q1, .inl (gI G, 60, .inl (fun _ => 0)))]) rfl ?_
  refine n_putF E E2 (ci := 2) (fs := [.null, .null, .int (iI 0), .int (iI 0), .int (iI 0), .int (iI 0), .int (iI 0), .int (iI 0)]) (N := 8) (C := RX2) (T := TX2) iX2 tyX2 tyX2_ok nmX2 0 rfl rfl 0 (by decide) rfl f4 rfl rfl (tyX2_ok 0 (by decide)) rfl rfl (Nat.le_of_ble_eq_true rfl) (ws' := [(h, .inr (2, [.ref q1, .null, .int (iI 0), .int (iI 0), .int (iI 0), .int (iI 0), .int (iI 0), .int (iI 0)])), (q1, .inl (gI G, 60, .inl (fun _ => 0)))]) rfl dX2_init_9 ?_
  refine n_aload_n E dX2_init_12 0 rfl rfl ?_
  refine n_iconst E dX2_init_13 ?_
  refine n_newa E f3 4 rfl (Nat.le_of_ble_eq_true rfl) 2 64 rfl rfl (Nat.le_of_ble_eq_true rfl) (Nat.le_of_ble_eq_true rfl) dX2_init_14 (fun q2 => ?_)
  refine Kn.eq (ws' := [(h, .inr (2, [.ref q1, .null, .int (iI 0), .int (iI 0), .int (iI 0), .int (iI 0), .int (iI 0), .int (iI 0)])), (q1, .inl (gI G, 60, .inl (fun _ => 0))), (q2, .inl (gI G, 4, .inl (fun _ => 0)))]) rfl ?_
  refine n_putF E E2 (ci := 2) (fs := [.ref q1, .null, .int (iI 0), .int (iI 0), .int (iI 0), .int (iI 0), .int (iI 0), .int (iI 0)]) (N := 8) (C := RX2) (T := TX2) iX2 tyX2 tyX2_ok nmX2 0 rfl rfl 1 (by decide) rfl f5 rfl rfl (tyX2_ok 1 (by decide)) rfl rfl (Nat.le_of_ble_eq_true rfl) (ws' := [(h, .inr (2, [.ref q1, .ref q2, .int (iI 0), .int (iI 0), .int (iI 0), .int (iI 0), .int (iI 0), .int (iI 0)])), (q1, .inl (gI G, 60, .inl (fun _ => 0))), (q2, .inl (gI G, 4, .inl (fun _ => 0)))]) rfl dX2_init_16 ?_
  refine n_aload_n E dX2_init_19 0 rfl rfl ?_
  refine n_iconst E dX2_init_20 ?_
  refine n_put E (ci := 2) (fs := [.ref q1, .ref q2, .int (iI 0), .int (iI 0), .int (iI 0), .int (iI 0), .int (iI 0), .int (iI 0)]) (N := 8) (C := RX2) (T := TX2) iX2 tyX2 tyX2_ok nmX2 0 rfl rfl 2 (by decide) rfl f6 rfl (tyX2_ok 2 (by decide)) rfl rfl (Nat.le_of_ble_eq_true rfl) (ws' := [(h, .inr (2, [.ref q1, .ref q2, .int (iI 0), .int (iI 0), .int (iI 0), .int (iI 0), .int (iI 0), .int (iI 0)])), (q1, .inl (gI G, 60, .inl (fun _ => 0))), (q2, .inl (gI G, 4, .inl (fun _ => 0)))]) rfl dX2_init_21 ?_
  refine n_aload_n E dX2_init_24 0 rfl rfl ?_
  refine n_iconst E dX2_init_25 ?_
  refine n_put E (ci := 2) (fs := [.ref q1, .ref q2, .int (iI 0), .int (iI 0), .int (iI 0), .int (iI 0), .int (iI 0), .int (iI 0)]) (N := 8) (C := RX2) (T := TX2) iX2 tyX2 tyX2_ok nmX2 0 rfl rfl 3 (by decide) rfl f7 rfl (tyX2_ok 3 (by decide)) rfl rfl (Nat.le_of_ble_eq_true rfl) (ws' := [(h, .inr (2, [.ref q1, .ref q2, .int (iI 0), .int (iI 0), .int (iI 0), .int (iI 0), .int (iI 0), .int (iI 0)])), (q1, .inl (gI G, 60, .inl (fun _ => 0))), (q2, .inl (gI G, 4, .inl (fun _ => 0)))]) rfl dX2_init_26 ?_
  refine n_aload_n E dX2_init_29 0 rfl rfl ?_
  refine n_iconst E dX2_init_30 ?_
  refine n_put E (ci := 2) (fs := [.ref q1, .ref q2, .int (iI 0), .int (iI 0), .int (iI 0), .int (iI 0), .int (iI 0), .int (iI 0)]) (N := 8) (C := RX2) (T := TX2) iX2 tyX2 tyX2_ok nmX2 0 rfl rfl 4 (by decide) rfl f8 rfl (tyX2_ok 4 (by decide)) rfl rfl (Nat.le_of_ble_eq_true rfl) (ws' := [(h, .inr (2, [.ref q1, .ref q2, .int (iI 0), .int (iI 0), .int (iI 0), .int (iI 0), .int (iI 0), .int (iI 0)])), (q1, .inl (gI G, 60, .inl (fun _ => 0))), (q2, .inl (gI G, 4, .inl (fun _ => 0)))]) rfl dX2_init_31 ?_
  refine n_aload_n E dX2_init_34 0 rfl rfl ?_
  refine n_iconst E dX2_init_35 ?_
  refine n_put E (ci := 2) (fs := [.ref q1, .ref q2, .int (iI 0), .int (iI 0), .int (iI 0), .int (iI 0), .int (iI 0), .int (iI 0)]) (N := 8) (C := RX2) (T := TX2) iX2 tyX2 tyX2_ok nmX2 0 rfl rfl 5 (by decide) rfl f9 rfl (tyX2_ok 5 (by decide)) rfl rfl (Nat.le_of_ble_eq_true rfl) (ws' := [(h, .inr (2, [.ref q1, .ref q2, .int (iI 0), .int (iI 0), .int (iI 0), .int (iI 0), .int (iI 0), .int (iI 0)])), (q1, .inl (gI G, 60, .inl (fun _ => 0))), (q2, .inl (gI G, 4, .inl (fun _ => 0)))]) rfl dX2_init_36 ?_
  refine n_aload_n E dX2_init_39 0 rfl rfl ?_
  refine n_iconst E dX2_init_40 ?_
  refine n_put E (ci := 2) (fs := [.ref q1, .ref q2, .int (iI 0), .int (iI 0), .int (iI 0), .int (iI 0), .int (iI 0), .int (iI 0)]) (N := 8) (C := RX2) (T := TX2) iX2 tyX2 tyX2_ok nmX2 0 rfl rfl 6 (by decide) rfl f10 rfl (tyX2_ok 6 (by decide)) rfl rfl (Nat.le_of_ble_eq_true rfl) (ws' := [(h, .inr (2, [.ref q1, .ref q2, .int (iI 0), .int (iI 0), .int (iI 0), .int (iI 0), .int (iI 0), .int (iI 0)])), (q1, .inl (gI G, 60, .inl (fun _ => 0))), (q2, .inl (gI G, 4, .inl (fun _ => 0)))]) rfl dX2_init_41 ?_
  refine n_aload_n E dX2_init_44 0 rfl rfl ?_
  refine n_iconst E dX2_init_45 ?_
  refine n_put E (ci := 2) (fs := [.ref q1, .ref q2, .int (iI 0), .int (iI 0), .int (iI 0), .int (iI 0), .int (iI 0), .int (iI 0)]) (N := 8) (C := RX2) (T := TX2) iX2 tyX2 tyX2_ok nmX2 0 rfl rfl 7 (by decide) rfl f11 rfl (tyX2_ok 7 (by decide)) rfl rfl (Nat.le_of_ble_eq_true rfl) (ws' := [(h, .inr (2, [.ref q1, .ref q2, .int (iI 0), .int (iI 0), .int (iI 0), .int (iI 0), .int (iI 0), .int (iI 0)])), (q1, .inl (gI G, 60, .inl (fun _ => 0))), (q2, .inl (gI G, 4, .inl (fun _ => 0)))]) rfl dX2_init_46 ?_
  exact n_vret E E2 rfl rfl (⟨fun r => match r with | 13 => h | 14 => q1 | _ => q2, rfl, rfl⟩) dX2_init_49

set_option maxHeartbeats 4000000 in
set_option maxRecDepth 100000 in
theorem kX5_init (l : Launch) (G : Gl) (h sz : Nat) : Met l yX5_init wsX5_init ({ frames := 4, cells := 65, slots := 3409, locals := 82 }) (va_Pc [.ref h] (Sn G h (.inr (5, [.null, .null, .null, .null])) sz)) (Qn G h sz (shX5 G h)) 65 3409 (frC h sz) := by
  refine n_met (cc := cX5_init) (nL := 1) (own := RX5) (by decide +kernel) rfl rfl rfl (Nat.le_of_ble_eq_true rfl) (L := [some (.ref h)]) rfl ?_
  intro X E E2
  have iX1 : ∀ x ∈ wsX10, x ∈ wsX5_init := by decide +kernel
  have iX2 : ∀ x ∈ wsX20, x ∈ wsX5_init := by decide +kernel
  have iX4 : ∀ x ∈ wsX40, x ∈ wsX5_init := by decide +kernel
  have iX5 : ∀ x ∈ wsX50, x ∈ wsX5_init := by decide +kernel
  have f0 : Cond.methodLink RX5 1 objectInit ∈ wsX5_init := by decide +kernel
  have f1 : Cond.instanceMethod objectInit ∈ wsX5_init := by decide +kernel
  have f2 : Cond.code objectInit ⟨#[0xb1]⟩ 1 none ∈ wsX5_init := by decide +kernel
  have f3 : Cond.classLink RX5 7 RX4 ∈ wsX5_init := by decide +kernel
  have f4 : Cond.instantiable RX4 6 ∈ wsX5_init := by decide +kernel
  have f5 : Cond.initialized RX4 ∈ wsX5_init := by decide +kernel
  have f6 : Cond.methodLink RX5 9 yX4_init ∈ wsX5_init := by decide +kernel
  have f7 : Cond.instanceMethod yX4_init ∈ wsX5_init := by decide +kernel
  have f8 : Cond.fieldLink RX5 10 "SharedStates" "world" "LSharedStates$World;" ∈ wsX5_init := by decide +kernel
  have f9 : Cond.fieldLink RX5 16 "SharedStates" "trial" "LSharedStates$World;" ∈ wsX5_init := by decide +kernel
  have f10 : Cond.classLink RX5 19 RX1 ∈ wsX5_init := by decide +kernel
  have f11 : Cond.instantiable RX1 3 ∈ wsX5_init := by decide +kernel
  have f12 : Cond.initialized RX1 ∈ wsX5_init := by decide +kernel
  have f13 : Cond.methodLink RX5 21 yX1_init ∈ wsX5_init := by decide +kernel
  have f14 : Cond.instanceMethod yX1_init ∈ wsX5_init := by decide +kernel
  have f15 : Cond.fieldLink RX5 22 "SharedStates" "history" "LSharedStates$History;" ∈ wsX5_init := by decide +kernel
  have f16 : Cond.classLink RX5 26 RX2 ∈ wsX5_init := by decide +kernel
  have f17 : Cond.instantiable RX2 8 ∈ wsX5_init := by decide +kernel
  have f18 : Cond.initialized RX2 ∈ wsX5_init := by decide +kernel
  have f19 : Cond.instanceMethod yX2_init ∈ wsX5_init := by decide +kernel
  have f20 : Cond.fieldLink RX5 29 "SharedStates" "orders" "LSharedStates$Orders;" ∈ wsX5_init := by decide +kernel
  refine n_aload_n E dX5_init_0 0 rfl rfl ?_
  refine n_obj E f0 f1 f2 rfl (Nat.le_of_ble_eq_true rfl) ⟨Nat.le_of_ble_eq_true rfl, Nat.le_of_ble_eq_true rfl⟩ dX5_init_1 ?_
  refine n_aload_n E dX5_init_4 0 rfl rfl ?_
  refine n_new E iX4 tyX4 tyX4_ok f3 f4 f5 (ci := 4) (fs := [.null, .null, .null, .null, .int (iI 0), .int (iI 0)]) rfl (fun j hj => by rcases (show j = 0 ∨ j = 1 ∨ j = 2 ∨ j = 3 ∨ j = 4 ∨ j = 5 by omega) with rfl | rfl | rfl | rfl | rfl | rfl <;> rfl) 1 6 rfl rfl (Nat.le_of_ble_eq_true rfl) (Nat.le_of_ble_eq_true rfl) dX5_init_5 (fun q1 => ?_)
  refine n_dup E dX5_init_8 rfl ?_
  refine n_call E (wr := [(h, .inr (5, [.null, .null, .null, .null]))]) (q := q1) (e0 := .inr (4, [.null, .null, .null, .null, .int (iI 0), .int (iI 0)])) (st := [.ref q1, .ref h]) (L := [some (.ref h)]) (fun sz' => kX4_init l G q1 sz') gX5_init_X4_init rfl ⟨rfl, rfl⟩ f5 f6 f7 rfl (by decide +kernel) ⟨Nat.le_of_ble_eq_true rfl, Nat.le_of_ble_eq_true rfl⟩ rfl (Nat.le_of_ble_eq_true rfl) 10 555 rfl rfl ⟨Nat.le_of_ble_eq_true rfl, Nat.le_of_ble_eq_true rfl⟩ dX5_init_9 (fun w1 hw1 => ?_)
  obtain ⟨a2, ha, rfl⟩ := hw1
  subst ha
  refine Kn.eq (ws' := [(h, .inr (5, [.null, .null, .null, .null]))] ++ eW G a2) rfl ?_
  refine n_put E (ci := 5) (fs := [.null, .null, .null, .null]) (N := 4) (C := RX5) (T := TX5) iX5 tyX5 tyX5_ok nmX5 0 rfl rfl 0 (by decide) rfl f8 rfl (tyX5_ok 0 (by decide)) rfl rfl (Nat.le_of_ble_eq_true rfl) (ws' := [(h, .inr (5, [.ref (a2 0), .null, .null, .null]))] ++ eW G a2) rfl dX5_init_12 ?_
  refine n_aload_n E dX5_init_15 0 rfl rfl ?_
  refine n_new E iX4 tyX4 tyX4_ok f3 f4 f5 (ci := 4) (fs := [.null, .null, .null, .null, .int (iI 0), .int (iI 0)]) rfl (fun j hj => by rcases (show j = 0 ∨ j = 1 ∨ j = 2 ∨ j = 3 ∨ j = 4 ∨ j = 5 by omega) with rfl | rfl | rfl | rfl | rfl | rfl <;> rfl) 11 561 rfl rfl (Nat.le_of_ble_eq_true rfl) (Nat.le_of_ble_eq_true rfl) dX5_init_16 (fun q3 => ?_)
  refine n_dup E dX5_init_19 rfl ?_
  refine n_call E (wr := [(h, .inr (5, [.ref (a2 0), .null, .null, .null]))] ++ eW G a2) (q := q3) (e0 := .inr (4, [.null, .null, .null, .null, .int (iI 0), .int (iI 0)])) (st := [.ref q3, .ref h]) (L := [some (.ref h)]) (fun sz' => kX4_init l G q3 sz') gX5_init_X4_init rfl ⟨rfl, rfl⟩ f5 f6 f7 rfl (by decide +kernel) ⟨Nat.le_of_ble_eq_true rfl, Nat.le_of_ble_eq_true rfl⟩ rfl (Nat.le_of_ble_eq_true rfl) 20 1110 rfl rfl ⟨Nat.le_of_ble_eq_true rfl, Nat.le_of_ble_eq_true rfl⟩ dX5_init_20 (fun w1 hw1 => ?_)
  obtain ⟨a4, ha, rfl⟩ := hw1
  subst ha
  refine Kn.eq (ws' := [(h, .inr (5, [.ref (a2 0), .null, .null, .null]))] ++ eW G a2 ++ eW G a4) rfl ?_
  refine n_put E (ci := 5) (fs := [.ref (a2 0), .null, .null, .null]) (N := 4) (C := RX5) (T := TX5) iX5 tyX5 tyX5_ok nmX5 0 rfl rfl 1 (by decide) rfl f9 rfl (tyX5_ok 1 (by decide)) rfl rfl (Nat.le_of_ble_eq_true rfl) (ws' := [(h, .inr (5, [.ref (a2 0), .ref (a4 0), .null, .null]))] ++ eW G a2 ++ eW G a4) rfl dX5_init_23 ?_
  refine n_aload_n E dX5_init_26 0 rfl rfl ?_
  refine n_new E iX1 tyX1 tyX1_ok f10 f11 f12 (ci := 1) (fs := [.null, .int (iI 0), .int (iI 0)]) rfl (fun j hj => by rcases (show j = 0 ∨ j = 1 ∨ j = 2 by omega) with rfl | rfl | rfl <;> rfl) 21 1113 rfl rfl (Nat.le_of_ble_eq_true rfl) (Nat.le_of_ble_eq_true rfl) dX5_init_27 (fun q5 => ?_)
  refine n_dup E dX5_init_30 rfl ?_
  refine n_call E (wr := [(h, .inr (5, [.ref (a2 0), .ref (a4 0), .null, .null]))] ++ eW G a2 ++ eW G a4) (q := q5) (e0 := .inr (1, [.null, .int (iI 0), .int (iI 0)])) (st := [.ref q5, .ref h]) (L := [some (.ref h)]) (fun sz' => kX1_init l G q5 sz') gX5_init_X1_init rfl ⟨rfl, rfl⟩ f12 f13 f14 rfl (by decide +kernel) ⟨Nat.le_of_ble_eq_true rfl, Nat.le_of_ble_eq_true rfl⟩ rfl (Nat.le_of_ble_eq_true rfl) 62 3337 rfl rfl ⟨Nat.le_of_ble_eq_true rfl, Nat.le_of_ble_eq_true rfl⟩ dX5_init_31 (fun w1 hw1 => ?_)
  obtain ⟨r6, aa6, ab6, ac6, ad6, rfl⟩ := hw1
  refine Kn.eq (ws' := [(h, .inr (5, [.ref (a2 0), .ref (a4 0), .null, .null]))] ++ eW G a2 ++ eW G a4 ++ eH G q5 r6 aa6 ab6 ac6 ad6) rfl ?_
  refine n_putF E E2 (ci := 5) (fs := [.ref (a2 0), .ref (a4 0), .null, .null]) (N := 4) (C := RX5) (T := TX5) iX5 tyX5 tyX5_ok nmX5 0 rfl rfl 2 (by decide) rfl f15 rfl rfl (tyX5_ok 2 (by decide)) rfl rfl (Nat.le_of_ble_eq_true rfl) (ws' := [(h, .inr (5, [.ref (a2 0), .ref (a4 0), .ref q5, .null]))] ++ eW G a2 ++ eW G a4 ++ eH G q5 r6 aa6 ab6 ac6 ad6) rfl dX5_init_34 ?_
  refine n_aload_n E dX5_init_37 0 rfl rfl ?_
  refine n_new E iX2 tyX2 tyX2_ok f16 f17 f18 (ci := 2) (fs := [.null, .null, .int (iI 0), .int (iI 0), .int (iI 0), .int (iI 0), .int (iI 0), .int (iI 0)]) rfl (fun j hj => by rcases (show j = 0 ∨ j = 1 ∨ j = 2 ∨ j = 3 ∨ j = 4 ∨ j = 5 ∨ j = 6 ∨ j = 7 by omega) with rfl | rfl | rfl | rfl | rfl | rfl | rfl | rfl <;> rfl) 63 3345 rfl rfl (Nat.le_of_ble_eq_true rfl) (Nat.le_of_ble_eq_true rfl) dX5_init_38 (fun q7 => ?_)
  refine n_dup E dX5_init_41 rfl ?_
  refine n_callN E (host := "SharedStates") (wr := [(h, .inr (5, [.ref (a2 0), .ref (a4 0), .ref q5, .null]))] ++ eW G a2 ++ eW G a4 ++ eH G q5 r6 aa6 ab6 ac6 ad6) (q := q7) (e0 := .inr (2, [.null, .null, .int (iI 0), .int (iI 0), .int (iI 0), .int (iI 0), .int (iI 0), .int (iI 0)])) (st := [.ref q7, .ref h]) (L := [some (.ref h)]) (fun sz' => kX2_init l G q7 sz') gX5_init_X2_init_n28 rfl ⟨rfl, rfl⟩ f18 (fun U hx => nst_X5_28 hx) f19 rfl (by decide +kernel) ⟨Nat.le_of_ble_eq_true rfl, Nat.le_of_ble_eq_true rfl⟩ rfl (Nat.le_of_ble_eq_true rfl) 65 3409 rfl rfl ⟨Nat.le_of_ble_eq_true rfl, Nat.le_of_ble_eq_true rfl⟩ dX5_init_42 (fun w1 hw1 => ?_)
  obtain ⟨a8, ha, rfl⟩ := hw1
  subst ha
  refine Kn.eq (ws' := [(h, .inr (5, [.ref (a2 0), .ref (a4 0), .ref q5, .null]))] ++ eW G a2 ++ eW G a4 ++ eH G q5 r6 aa6 ab6 ac6 ad6 ++ eO G a8) rfl ?_
  refine n_putF E E2 (ci := 5) (fs := [.ref (a2 0), .ref (a4 0), .ref q5, .null]) (N := 4) (C := RX5) (T := TX5) iX5 tyX5 tyX5_ok nmX5 0 rfl rfl 3 (by decide) rfl f20 rfl rfl (tyX5_ok 3 (by decide)) rfl rfl (Nat.le_of_ble_eq_true rfl) (ws' := [(h, .inr (5, [.ref (a2 0), .ref (a4 0), .ref q5, .ref (a8 13)]))] ++ eW G a2 ++ eW G a4 ++ eH G q5 r6 aa6 ab6 ac6 ad6 ++ eO G a8) rfl dX5_init_45 ?_
  exact n_vret E E2 rfl rfl (⟨a2, a4, aa6, ab6, ac6, ad6, q5, r6, a8, rfl⟩) dX5_init_48
