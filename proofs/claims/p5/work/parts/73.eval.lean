theorem wfl_0_9 : pFL 0 (9, 0, 0, 12) := ⟨TX0, 10, tyX0, rfl, inT0, tyX0_ok, nmX0, by decide, tbT 325 (by decide +kernel) rfl, rfl, (fun _ _ => rfl), Or.inr (Or.inr (Or.inl ⟨rfl, Or.inr ⟨_, rfl⟩⟩))⟩
theorem wfl_0_15 : pFL 0 (15, 0, 1, 12) := ⟨TX0, 10, tyX0, rfl, inT0, tyX0_ok, nmX0, by decide, tbT 326 (by decide +kernel) rfl, rfl, (fun _ _ => rfl), Or.inr (Or.inr (Or.inl ⟨rfl, Or.inr ⟨_, rfl⟩⟩))⟩
theorem wfl_0_18 : pFL 0 (18, 0, 2, 12) := ⟨TX0, 10, tyX0, rfl, inT0, tyX0_ok, nmX0, by decide, tbT 327 (by decide +kernel) rfl, rfl, (fun _ _ => rfl), Or.inr (Or.inr (Or.inl ⟨rfl, Or.inr ⟨_, rfl⟩⟩))⟩
theorem wfl_0_21 : pFL 0 (21, 0, 3, 12) := ⟨TX0, 10, tyX0, rfl, inT0, tyX0_ok, nmX0, by decide, tbT 328 (by decide +kernel) rfl, rfl, (fun _ _ => rfl), Or.inr (Or.inr (Or.inl ⟨rfl, Or.inr ⟨_, rfl⟩⟩))⟩
theorem wfl_0 : ∀ x ∈ efl_0, pFL 0 x := List.forall_mem_cons.mpr ⟨wfl_0_9, List.forall_mem_cons.mpr ⟨wfl_0_15, List.forall_mem_cons.mpr ⟨wfl_0_18, List.forall_mem_cons.mpr ⟨wfl_0_21, fun _ h => absurd h List.not_mem_nil⟩⟩⟩⟩
theorem wfl_1_9 : pFL 1 (9, 1, 0, 12) := ⟨TX1, 10, tyX1, rfl, inT1, tyX1_ok, nmX1, by decide, tbT 202 (by decide +kernel) rfl, rfl, (fun _ _ => rfl), Or.inr (Or.inr (Or.inl ⟨rfl, Or.inr ⟨_, rfl⟩⟩))⟩
theorem wfl_1_15 : pFL 1 (15, 1, 1, 12) := ⟨TX1, 10, tyX1, rfl, inT1, tyX1_ok, nmX1, by decide, tbT 207 (by decide +kernel) rfl, rfl, (fun _ _ => rfl), Or.inr (Or.inr (Or.inl ⟨rfl, Or.inr ⟨_, rfl⟩⟩))⟩
theorem wfl_1_18 : pFL 1 (18, 1, 2, 12) := ⟨TX1, 10, tyX1, rfl, inT1, tyX1_ok, nmX1, by decide, tbT 211 (by decide +kernel) rfl, rfl, (fun _ _ => rfl), Or.inr (Or.inr (Or.inl ⟨rfl, Or.inr ⟨_, rfl⟩⟩))⟩
theorem wfl_1_21 : pFL 1 (21, 1, 3, 12) := ⟨TX1, 10, tyX1, rfl, inT1, tyX1_ok, nmX1, by decide, tbT 214 (by decide +kernel) rfl, rfl, (fun _ _ => rfl), Or.inr (Or.inr (Or.inl ⟨rfl, Or.inr ⟨_, rfl⟩⟩))⟩
theorem wfl_1_24 : pFL 1 (24, 1, 4, 12) := ⟨TX1, 10, tyX1, rfl, inT1, tyX1_ok, nmX1, by decide, tbT 217 (by decide +kernel) rfl, rfl, (fun _ _ => rfl), Or.inr (Or.inr (Or.inl ⟨rfl, Or.inr ⟨_, rfl⟩⟩))⟩
theorem wfl_1 : ∀ x ∈ efl_1, pFL 1 x := List.forall_mem_cons.mpr ⟨wfl_1_9, List.forall_mem_cons.mpr ⟨wfl_1_15, List.forall_mem_cons.mpr ⟨wfl_1_18, List.forall_mem_cons.mpr ⟨wfl_1_21, List.forall_mem_cons.mpr ⟨wfl_1_24, fun _ h => absurd h List.not_mem_nil⟩⟩⟩⟩⟩
theorem wfl_2 : ∀ x ∈ efl_2, pFL 2 x := fun _ h => absurd h List.not_mem_nil
theorem wfl_3_9 : pFL 3 (9, 3, 0, 12) := ⟨TX3, 2, tyX3, rfl, inT3, tyX3_ok, nmX3, by decide, tbT 395 (by decide +kernel) rfl, rfl, (fun _ _ => rfl), Or.inr (Or.inr (Or.inl ⟨rfl, Or.inr ⟨_, rfl⟩⟩))⟩
theorem wfl_3_15 : pFL 3 (15, 3, 1, 12) := ⟨TX3, 2, tyX3, rfl, inT3, tyX3_ok, nmX3, by decide, tbT 396 (by decide +kernel) rfl, rfl, (fun _ _ => rfl), Or.inr (Or.inr (Or.inl ⟨rfl, Or.inr ⟨_, rfl⟩⟩))⟩
theorem wfl_3 : ∀ x ∈ efl_3, pFL 3 x := List.forall_mem_cons.mpr ⟨wfl_3_9, List.forall_mem_cons.mpr ⟨wfl_3_15, fun _ h => absurd h List.not_mem_nil⟩⟩
theorem wfl_4_9 : pFL 4 (9, 4, 0, 12) := ⟨TX4, 8, tyX4, rfl, inT4, tyX4_ok, nmX4, by decide, tbT 408 (by decide +kernel) rfl, rfl, (fun _ _ => rfl), Or.inr (Or.inr (Or.inl ⟨rfl, Or.inr ⟨_, rfl⟩⟩))⟩
theorem wfl_4_15 : pFL 4 (15, 4, 2, 12) := ⟨TX4, 8, tyX4, rfl, inT4, tyX4_ok, nmX4, by decide, tbT 412 (by decide +kernel) rfl, rfl, (fun _ _ => rfl), Or.inr (Or.inr (Or.inl ⟨rfl, Or.inr ⟨_, rfl⟩⟩))⟩
theorem wfl_4_18 : pFL 4 (18, 4, 3, 12) := ⟨TX4, 8, tyX4, rfl, inT4, tyX4_ok, nmX4, by decide, tbT 414 (by decide +kernel) rfl, rfl, (fun _ _ => rfl), Or.inr (Or.inr (Or.inl ⟨rfl, Or.inr ⟨_, rfl⟩⟩))⟩
theorem wfl_4_21 : pFL 4 (21, 4, 5, 12) := ⟨TX4, 8, tyX4, rfl, inT4, tyX4_ok, nmX4, by decide, tbT 418 (by decide +kernel) rfl, rfl, (fun _ _ => rfl), Or.inr (Or.inr (Or.inl ⟨rfl, Or.inr ⟨_, rfl⟩⟩))⟩
theorem wfl_4_24 : pFL 4 (24, 4, 6, 12) := ⟨TX4, 8, tyX4, rfl, inT4, tyX4_ok, nmX4, by decide, tbT 419 (by decide +kernel) rfl, rfl, (fun _ _ => rfl), Or.inr (Or.inr (Or.inl ⟨rfl, Or.inr ⟨_, rfl⟩⟩))⟩
theorem wfl_4_27 : pFL 4 (27, 4, 7, 12) := ⟨TX4, 8, tyX4, rfl, inT4, tyX4_ok, nmX4, by decide, tbT 420 (by decide +kernel) rfl, rfl, (fun _ _ => rfl), Or.inr (Or.inr (Or.inl ⟨rfl, Or.inr ⟨_, rfl⟩⟩))⟩
theorem wfl_4 : ∀ x ∈ efl_4, pFL 4 x := List.forall_mem_cons.mpr ⟨wfl_4_9, List.forall_mem_cons.mpr ⟨wfl_4_15, List.forall_mem_cons.mpr ⟨wfl_4_18, List.forall_mem_cons.mpr ⟨wfl_4_21, List.forall_mem_cons.mpr ⟨wfl_4_24, List.forall_mem_cons.mpr ⟨wfl_4_27, fun _ h => absurd h List.not_mem_nil⟩⟩⟩⟩⟩⟩
theorem wfl_5_13 : pFL 5 (13, 5, 0, 12) := ⟨TX5, 3, tyX5, rfl, inT5, tyX5_ok, nmX5, by decide, tbT 267 (by decide +kernel) rfl, rfl, (fun _ _ => rfl), Or.inr (Or.inr (Or.inl ⟨rfl, Or.inr ⟨_, rfl⟩⟩))⟩
theorem wfl_5 : ∀ x ∈ efl_5, pFL 5 x := List.forall_mem_cons.mpr ⟨wfl_5_13, fun _ h => absurd h List.not_mem_nil⟩
theorem wfl_6_11 : pFL 6 (11, 6, 0, 12) := ⟨TX6, 5, tyX6, rfl, inT6, tyX6_ok, nmX6, by decide, tbT 283 (by decide +kernel) rfl, rfl, (fun _ _ => rfl), Or.inr (Or.inr (Or.inl ⟨rfl, Or.inr ⟨_, rfl⟩⟩))⟩
theorem wfl_6_15 : pFL 6 (15, 6, 1, 12) := ⟨TX6, 5, tyX6, rfl, inT6, tyX6_ok, nmX6, by decide, tbT 284 (by decide +kernel) rfl, rfl, (fun _ _ => rfl), Or.inr (Or.inr (Or.inl ⟨rfl, Or.inr ⟨_, rfl⟩⟩))⟩
theorem wfl_6_18 : pFL 6 (18, 6, 2, 12) := ⟨TX6, 5, tyX6, rfl, inT6, tyX6_ok, nmX6, by decide, tbT 285 (by decide +kernel) rfl, rfl, (fun _ _ => rfl), Or.inr (Or.inr (Or.inl ⟨rfl, Or.inr ⟨_, rfl⟩⟩))⟩
theorem wfl_6 : ∀ x ∈ efl_6, pFL 6 x := List.forall_mem_cons.mpr ⟨wfl_6_11, List.forall_mem_cons.mpr ⟨wfl_6_15, List.forall_mem_cons.mpr ⟨wfl_6_18, fun _ h => absurd h List.not_mem_nil⟩⟩⟩
theorem wfl_7_9 : pFL 7 (9, 7, 0, 12) := ⟨TX7, 11, tyX7, rfl, inT7, tyX7_ok, nmX7, by decide, tbT 98 (by decide +kernel) rfl, rfl, (fun _ _ => rfl), Or.inr (Or.inr (Or.inl ⟨rfl, Or.inr ⟨_, rfl⟩⟩))⟩
theorem wfl_7_15 : pFL 7 (15, 7, 8, 12) := ⟨TX7, 11, tyX7, rfl, inT7, tyX7_ok, nmX7, by decide, tbT 114 (by decide +kernel) rfl, rfl, (fun _ _ => rfl), Or.inr (Or.inr (Or.inl ⟨rfl, Or.inr ⟨_, rfl⟩⟩))⟩
theorem wfl_7 : ∀ x ∈ efl_7, pFL 7 x := List.forall_mem_cons.mpr ⟨wfl_7_9, List.forall_mem_cons.mpr ⟨wfl_7_15, fun _ h => absurd h List.not_mem_nil⟩⟩
theorem wfl_8_9 : pFL 8 (9, 8, 0, 12) := ⟨TX8, 10, tyX8, rfl, inT8, tyX8_ok, nmX8, by decide, tbT 148 (by decide +kernel) rfl, rfl, (fun _ _ => rfl), Or.inr (Or.inr (Or.inl ⟨rfl, Or.inr ⟨_, rfl⟩⟩))⟩
theorem wfl_8_15 : pFL 8 (15, 8, 1, 12) := ⟨TX8, 10, tyX8, rfl, inT8, tyX8_ok, nmX8, by decide, tbT 149 (by decide +kernel) rfl, rfl, (fun _ _ => rfl), Or.inr (Or.inr (Or.inl ⟨rfl, Or.inr ⟨_, rfl⟩⟩))⟩
theorem wfl_8_19 : pFL 8 (19, 8, 2, 12) := ⟨TX8, 10, tyX8, rfl, inT8, tyX8_ok, nmX8, by decide, tbT 150 (by decide +kernel) rfl, rfl, (fun _ _ => rfl), Or.inr (Or.inr (Or.inl ⟨rfl, Or.inr ⟨_, rfl⟩⟩))⟩
theorem wfl_8_22 : pFL 8 (22, 8, 3, 12) := ⟨TX8, 10, tyX8, rfl, inT8, tyX8_ok, nmX8, by decide, tbT 151 (by decide +kernel) rfl, rfl, (fun _ _ => rfl), Or.inr (Or.inr (Or.inl ⟨rfl, Or.inr ⟨_, rfl⟩⟩))⟩
theorem wfl_8_25 : pFL 8 (25, 8, 4, 12) := ⟨TX8, 10, tyX8, rfl, inT8, tyX8_ok, nmX8, by decide, tbT 152 (by decide +kernel) rfl, rfl, (fun _ _ => rfl), Or.inr (Or.inr (Or.inl ⟨rfl, Or.inr ⟨_, rfl⟩⟩))⟩
theorem wfl_8_28 : pFL 8 (28, 8, 5, 12) := ⟨TX8, 10, tyX8, rfl, inT8, tyX8_ok, nmX8, by decide, tbT 155 (by decide +kernel) rfl, rfl, (fun _ _ => rfl), Or.inr (Or.inr (Or.inl ⟨rfl, Or.inr ⟨_, rfl⟩⟩))⟩
theorem wfl_8_31 : pFL 8 (31, 8, 6, 12) := ⟨TX8, 10, tyX8, rfl, inT8, tyX8_ok, nmX8, by decide, tbT 158 (by decide +kernel) rfl, rfl, (fun _ _ => rfl), Or.inr (Or.inr (Or.inl ⟨rfl, Or.inr ⟨_, rfl⟩⟩))⟩
theorem wfl_8_34 : pFL 8 (34, 8, 7, 12) := ⟨TX8, 10, tyX8, rfl, inT8, tyX8_ok, nmX8, by decide, tbT 161 (by decide +kernel) rfl, rfl, (fun _ _ => rfl), Or.inr (Or.inr (Or.inl ⟨rfl, Or.inr ⟨_, rfl⟩⟩))⟩
theorem wfl_8 : ∀ x ∈ efl_8, pFL 8 x := List.forall_mem_cons.mpr ⟨wfl_8_9, List.forall_mem_cons.mpr ⟨wfl_8_15, List.forall_mem_cons.mpr ⟨wfl_8_19, List.forall_mem_cons.mpr ⟨wfl_8_22, List.forall_mem_cons.mpr ⟨wfl_8_25, List.forall_mem_cons.mpr ⟨wfl_8_28, List.forall_mem_cons.mpr ⟨wfl_8_31, List.forall_mem_cons.mpr ⟨wfl_8_34, fun _ h => absurd h List.not_mem_nil⟩⟩⟩⟩⟩⟩⟩⟩
theorem wfl_9_12 : pFL 9 (12, 9, 0, 12) := ⟨TX9, 2, tyX9, rfl, inT9, tyX9_ok, nmX9, by decide, tbT 310 (by decide +kernel) rfl, rfl, (fun _ _ => rfl), Or.inr (Or.inr (Or.inl ⟨rfl, Or.inl ⟨_, rfl⟩⟩))⟩
theorem wfl_9_21 : pFL 9 (21, 9, 1, 12) := ⟨TX9, 2, tyX9, rfl, inT9, tyX9_ok, nmX9, by decide, tbT 312 (by decide +kernel) rfl, rfl, (fun _ _ => rfl), Or.inr (Or.inr (Or.inl ⟨rfl, Or.inl ⟨_, rfl⟩⟩))⟩
theorem wfl_9 : ∀ x ∈ efl_9, pFL 9 x := List.forall_mem_cons.mpr ⟨wfl_9_12, List.forall_mem_cons.mpr ⟨wfl_9_21, fun _ h => absurd h List.not_mem_nil⟩⟩
theorem wfl_10_9 : pFL 10 (9, 10, 0, 12) := ⟨TX10, 6, tyX10, rfl, inT10, tyX10_ok, nmX10, by decide, tbT 367 (by decide +kernel) rfl, rfl, (fun _ _ => rfl), Or.inr (Or.inr (Or.inl ⟨rfl, Or.inr ⟨_, rfl⟩⟩))⟩
theorem wfl_10_15 : pFL 10 (15, 10, 1, 12) := ⟨TX10, 6, tyX10, rfl, inT10, tyX10_ok, nmX10, by decide, tbT 368 (by decide +kernel) rfl, rfl, (fun _ _ => rfl), Or.inr (Or.inr (Or.inl ⟨rfl, Or.inr ⟨_, rfl⟩⟩))⟩
theorem wfl_10_18 : pFL 10 (18, 10, 2, 12) := ⟨TX10, 6, tyX10, rfl, inT10, tyX10_ok, nmX10, by decide, tbT 369 (by decide +kernel) rfl, rfl, (fun _ _ => rfl), Or.inr (Or.inr (Or.inl ⟨rfl, Or.inr ⟨_, rfl⟩⟩))⟩
theorem wfl_10_21 : pFL 10 (21, 10, 3, 12) := ⟨TX10, 6, tyX10, rfl, inT10, tyX10_ok, nmX10, by decide, tbT 370 (by decide +kernel) rfl, rfl, (fun _ _ => rfl), Or.inr (Or.inr (Or.inl ⟨rfl, Or.inr ⟨_, rfl⟩⟩))⟩
theorem wfl_10_24 : pFL 10 (24, 10, 5, 0) := ⟨TX10, 6, tyX10, rfl, inT10, tyX10_ok, nmX10, by decide, tbT 374 (by decide +kernel) rfl, rfl, (fun h => by cases h), Or.inl ⟨rfl, rfl⟩⟩
theorem wfl_10 : ∀ x ∈ efl_10, pFL 10 x := List.forall_mem_cons.mpr ⟨wfl_10_9, List.forall_mem_cons.mpr ⟨wfl_10_15, List.forall_mem_cons.mpr ⟨wfl_10_18, List.forall_mem_cons.mpr ⟨wfl_10_21, List.forall_mem_cons.mpr ⟨wfl_10_24, fun _ h => absurd h List.not_mem_nil⟩⟩⟩⟩⟩
theorem wfl_11_10 : pFL 11 (10, 11, 0, 12) := ⟨TX11, 17, tyX11, rfl, inT11, tyX11_ok, nmX11, by decide, tbT 450 (by decide +kernel) rfl, rfl, (fun _ _ => rfl), Or.inr (Or.inr (Or.inl ⟨rfl, Or.inl ⟨_, rfl⟩⟩))⟩
theorem wfl_11_19 : pFL 11 (19, 11, 1, 12) := ⟨TX11, 17, tyX11, rfl, inT11, tyX11_ok, nmX11, by decide, tbT 451 (by decide +kernel) rfl, rfl, (fun _ _ => rfl), Or.inr (Or.inr (Or.inl ⟨rfl, Or.inl ⟨_, rfl⟩⟩))⟩
theorem wfl_11_26 : pFL 11 (26, 11, 2, 12) := ⟨TX11, 17, tyX11, rfl, inT11, tyX11_ok, nmX11, by decide, tbT 452 (by decide +kernel) rfl, rfl, (fun _ _ => rfl), Or.inr (Or.inr (Or.inl ⟨rfl, Or.inl ⟨_, rfl⟩⟩))⟩
theorem wfl_11_30 : pFL 11 (30, 11, 3, 12) := ⟨TX11, 17, tyX11, rfl, inT11, tyX11_ok, nmX11, by decide, tbT 453 (by decide +kernel) rfl, rfl, (fun _ _ => rfl), Or.inr (Or.inr (Or.inl ⟨rfl, Or.inl ⟨_, rfl⟩⟩))⟩
theorem wfl_11_36 : pFL 11 (36, 11, 4, 12) := ⟨TX11, 17, tyX11, rfl, inT11, tyX11_ok, nmX11, by decide, tbT 454 (by decide +kernel) rfl, rfl, (fun _ _ => rfl), Or.inr (Or.inr (Or.inl ⟨rfl, Or.inl ⟨_, rfl⟩⟩))⟩
theorem wfl_11_43 : pFL 11 (43, 11, 5, 12) := ⟨TX11, 17, tyX11, rfl, inT11, tyX11_ok, nmX11, by decide, tbT 455 (by decide +kernel) rfl, rfl, (fun _ _ => rfl), Or.inr (Or.inr (Or.inl ⟨rfl, Or.inl ⟨_, rfl⟩⟩))⟩
theorem wfl_11_47 : pFL 11 (47, 11, 6, 12) := ⟨TX11, 17, tyX11, rfl, inT11, tyX11_ok, nmX11, by decide, tbT 456 (by decide +kernel) rfl, rfl, (fun _ _ => rfl), Or.inr (Or.inr (Or.inl ⟨rfl, Or.inl ⟨_, rfl⟩⟩))⟩
theorem wfl_11_53 : pFL 11 (53, 11, 7, 12) := ⟨TX11, 17, tyX11, rfl, inT11, tyX11_ok, nmX11, by decide, tbT 457 (by decide +kernel) rfl, rfl, (fun _ _ => rfl), Or.inr (Or.inr (Or.inl ⟨rfl, Or.inl ⟨_, rfl⟩⟩))⟩
theorem wfl_11_60 : pFL 11 (60, 11, 8, 12) := ⟨TX11, 17, tyX11, rfl, inT11, tyX11_ok, nmX11, by decide, tbT 458 (by decide +kernel) rfl, rfl, (fun _ _ => rfl), Or.inr (Or.inr (Or.inl ⟨rfl, Or.inl ⟨_, rfl⟩⟩))⟩
theorem wfl_11_67 : pFL 11 (67, 11, 9, 12) := ⟨TX11, 17, tyX11, rfl, inT11, tyX11_ok, nmX11, by decide, tbT 459 (by decide +kernel) rfl, rfl, (fun _ _ => rfl), Or.inr (Or.inr (Or.inl ⟨rfl, Or.inl ⟨_, rfl⟩⟩))⟩
theorem wfl_11_74 : pFL 11 (74, 11, 10, 12) := ⟨TX11, 17, tyX11, rfl, inT11, tyX11_ok, nmX11, by decide, tbT 460 (by decide +kernel) rfl, rfl, (fun _ _ => rfl), Or.inr (Or.inr (Or.inl ⟨rfl, Or.inl ⟨_, rfl⟩⟩))⟩
theorem wfl_11_81 : pFL 11 (81, 11, 11, 12) := ⟨TX11, 17, tyX11, rfl, inT11, tyX11_ok, nmX11, by decide, tbT 461 (by decide +kernel) rfl, rfl, (fun _ _ => rfl), Or.inr (Or.inr (Or.inl ⟨rfl, Or.inl ⟨_, rfl⟩⟩))⟩
theorem wfl_11_88 : pFL 11 (88, 11, 12, 12) := ⟨TX11, 17, tyX11, rfl, inT11, tyX11_ok, nmX11, by decide, tbT 462 (by decide +kernel) rfl, rfl, (fun _ _ => rfl), Or.inr (Or.inr (Or.inl ⟨rfl, Or.inl ⟨_, rfl⟩⟩))⟩
theorem wfl_11_92 : pFL 11 (92, 11, 13, 12) := ⟨TX11, 17, tyX11, rfl, inT11, tyX11_ok, nmX11, by decide, tbT 463 (by decide +kernel) rfl, rfl, (fun _ _ => rfl), Or.inr (Or.inr (Or.inl ⟨rfl, Or.inr ⟨_, rfl⟩⟩))⟩
theorem wfl_11_96 : pFL 11 (96, 11, 14, 12) := ⟨TX11, 17, tyX11, rfl, inT11, tyX11_ok, nmX11, by decide, tbT 464 (by decide +kernel) rfl, rfl, (fun _ _ => rfl), Or.inr (Or.inr (Or.inl ⟨rfl, Or.inr ⟨_, rfl⟩⟩))⟩
theorem wfl_11_100 : pFL 11 (100, 11, 15, 12) := ⟨TX11, 17, tyX11, rfl, inT11, tyX11_ok, nmX11, by decide, tbT 465 (by decide +kernel) rfl, rfl, (fun _ _ => rfl), Or.inr (Or.inr (Or.inl ⟨rfl, Or.inr ⟨_, rfl⟩⟩))⟩
theorem wfl_11 : ∀ x ∈ efl_11, pFL 11 x := List.forall_mem_cons.mpr ⟨wfl_11_10, List.forall_mem_cons.mpr ⟨wfl_11_19, List.forall_mem_cons.mpr ⟨wfl_11_26, List.forall_mem_cons.mpr ⟨wfl_11_30, List.forall_mem_cons.mpr ⟨wfl_11_36, List.forall_mem_cons.mpr ⟨wfl_11_43, List.forall_mem_cons.mpr ⟨wfl_11_47, List.forall_mem_cons.mpr ⟨wfl_11_53, List.forall_mem_cons.mpr ⟨wfl_11_60, List.forall_mem_cons.mpr ⟨wfl_11_67, List.forall_mem_cons.mpr ⟨wfl_11_74, List.forall_mem_cons.mpr ⟨wfl_11_81, List.forall_mem_cons.mpr ⟨wfl_11_88, List.forall_mem_cons.mpr ⟨wfl_11_92, List.forall_mem_cons.mpr ⟨wfl_11_96, List.forall_mem_cons.mpr ⟨wfl_11_100, fun _ h => absurd h List.not_mem_nil⟩⟩⟩⟩⟩⟩⟩⟩⟩⟩⟩⟩⟩⟩⟩⟩
theorem wfl_12_14 : pFL 12 (14, 12, 1, 12) := ⟨TX12, 55, tyX12, rfl, inT12, tyX12_ok, nmX12, by decide, tbT 1409 (by decide +kernel) rfl, rfl, (fun _ _ => rfl), Or.inr (Or.inr (Or.inl ⟨rfl, Or.inr ⟨_, rfl⟩⟩))⟩
theorem wfl_12_33 : pFL 12 (33, 12, 6, 12) := ⟨TX12, 55, tyX12, rfl, inT12, tyX12_ok, nmX12, by decide, tbT 1414 (by decide +kernel) rfl, rfl, (fun _ _ => rfl), Or.inr (Or.inr (Or.inl ⟨rfl, Or.inr ⟨_, rfl⟩⟩))⟩
theorem wfl_12_37 : pFL 12 (37, 12, 7, 12) := ⟨TX12, 55, tyX12, rfl, inT12, tyX12_ok, nmX12, by decide, tbT 1415 (by decide +kernel) rfl, rfl, (fun _ _ => rfl), Or.inr (Or.inr (Or.inl ⟨rfl, Or.inr ⟨_, rfl⟩⟩))⟩
theorem wfl_12_40 : pFL 12 (40, 12, 8, 12) := ⟨TX12, 55, tyX12, rfl, inT12, tyX12_ok, nmX12, by decide, tbT 1416 (by decide +kernel) rfl, rfl, (fun _ _ => rfl), Or.inr (Or.inr (Or.inl ⟨rfl, Or.inr ⟨_, rfl⟩⟩))⟩
theorem wfl_12_43 : pFL 12 (43, 12, 9, 12) := ⟨TX12, 55, tyX12, rfl, inT12, tyX12_ok, nmX12, by decide, tbT 1417 (by decide +kernel) rfl, rfl, (fun _ _ => rfl), Or.inr (Or.inr (Or.inl ⟨rfl, Or.inr ⟨_, rfl⟩⟩))⟩
theorem wfl_12_47 : pFL 12 (47, 12, 10, 12) := ⟨TX12, 55, tyX12, rfl, inT12, tyX12_ok, nmX12, by decide, tbT 1418 (by decide +kernel) rfl, rfl, (fun _ _ => rfl), Or.inr (Or.inr (Or.inl ⟨rfl, Or.inr ⟨_, rfl⟩⟩))⟩
theorem wfl_12_50 : pFL 12 (50, 12, 20, 12) := ⟨TX12, 55, tyX12, rfl, inT12, tyX12_ok, nmX12, by decide, tbT 1428 (by decide +kernel) rfl, rfl, (fun _ _ => rfl), Or.inr (Or.inr (Or.inl ⟨rfl, Or.inr ⟨_, rfl⟩⟩))⟩
theorem wfl_12_53 : pFL 12 (53, 12, 21, 12) := ⟨TX12, 55, tyX12, rfl, inT12, tyX12_ok, nmX12, by decide, tbT 1429 (by decide +kernel) rfl, rfl, (fun _ _ => rfl), Or.inr (Or.inr (Or.inl ⟨rfl, Or.inr ⟨_, rfl⟩⟩))⟩
theorem wfl_12_56 : pFL 12 (56, 12, 23, 12) := ⟨TX12, 55, tyX12, rfl, inT12, tyX12_ok, nmX12, by decide, tbT 1431 (by decide +kernel) rfl, rfl, (fun _ _ => rfl), Or.inr (Or.inr (Or.inl ⟨rfl, Or.inr ⟨_, rfl⟩⟩))⟩
theorem wfl_12_59 : pFL 12 (59, 12, 24, 12) := ⟨TX12, 55, tyX12, rfl, inT12, tyX12_ok, nmX12, by decide, tbT 1432 (by decide +kernel) rfl, rfl, (fun _ _ => rfl), Or.inr (Or.inr (Or.inl ⟨rfl, Or.inr ⟨_, rfl⟩⟩))⟩
theorem wfl_12_62 : pFL 12 (62, 12, 25, 12) := ⟨TX12, 55, tyX12, rfl, inT12, tyX12_ok, nmX12, by decide, tbT 1433 (by decide +kernel) rfl, rfl, (fun _ _ => rfl), Or.inr (Or.inr (Or.inl ⟨rfl, Or.inr ⟨_, rfl⟩⟩))⟩
theorem wfl_12_65 : pFL 12 (65, 12, 29, 12) := ⟨TX12, 55, tyX12, rfl, inT12, tyX12_ok, nmX12, by decide, tbT 1437 (by decide +kernel) rfl, rfl, (fun _ _ => rfl), Or.inr (Or.inr (Or.inl ⟨rfl, Or.inr ⟨_, rfl⟩⟩))⟩
theorem wfl_12_68 : pFL 12 (68, 12, 30, 12) := ⟨TX12, 55, tyX12, rfl, inT12, tyX12_ok, nmX12, by decide, tbT 1438 (by decide +kernel) rfl, rfl, (fun _ _ => rfl), Or.inr (Or.inr (Or.inl ⟨rfl, Or.inr ⟨_, rfl⟩⟩))⟩
theorem wfl_12_71 : pFL 12 (71, 12, 31, 12) := ⟨TX12, 55, tyX12, rfl, inT12, tyX12_ok, nmX12, by decide, tbT 1439 (by decide +kernel) rfl, rfl, (fun _ _ => rfl), Or.inr (Or.inr (Or.inl ⟨rfl, Or.inr ⟨_, rfl⟩⟩))⟩
theorem wfl_12_74 : pFL 12 (74, 12, 32, 12) := ⟨TX12, 55, tyX12, rfl, inT12, tyX12_ok, nmX12, by decide, tbT 1440 (by decide +kernel) rfl, rfl, (fun _ _ => rfl), Or.inr (Or.inr (Or.inl ⟨rfl, Or.inr ⟨_, rfl⟩⟩))⟩
theorem wfl_12_77 : pFL 12 (77, 12, 33, 12) := ⟨TX12, 55, tyX12, rfl, inT12, tyX12_ok, nmX12, by decide, tbT 1441 (by decide +kernel) rfl, rfl, (fun _ _ => rfl), Or.inr (Or.inr (Or.inl ⟨rfl, Or.inr ⟨_, rfl⟩⟩))⟩
theorem wfl_12_80 : pFL 12 (80, 12, 34, 12) := ⟨TX12, 55, tyX12, rfl, inT12, tyX12_ok, nmX12, by decide, tbT 1442 (by decide +kernel) rfl, rfl, (fun _ _ => rfl), Or.inr (Or.inr (Or.inl ⟨rfl, Or.inr ⟨_, rfl⟩⟩))⟩
theorem wfl_12_83 : pFL 12 (83, 12, 36, 12) := ⟨TX12, 55, tyX12, rfl, inT12, tyX12_ok, nmX12, by decide, tbT 1444 (by decide +kernel) rfl, rfl, (fun _ _ => rfl), Or.inr (Or.inr (Or.inl ⟨rfl, Or.inr ⟨_, rfl⟩⟩))⟩
theorem wfl_12_86 : pFL 12 (86, 12, 37, 12) := ⟨TX12, 55, tyX12, rfl, inT12, tyX12_ok, nmX12, by decide, tbT 1445 (by decide +kernel) rfl, rfl, (fun _ _ => rfl), Or.inr (Or.inr (Or.inl ⟨rfl, Or.inr ⟨_, rfl⟩⟩))⟩
theorem wfl_12_89 : pFL 12 (89, 12, 38, 12) := ⟨TX12, 55, tyX12, rfl, inT12, tyX12_ok, nmX12, by decide, tbT 1446 (by decide +kernel) rfl, rfl, (fun _ _ => rfl), Or.inr (Or.inr (Or.inl ⟨rfl, Or.inr ⟨_, rfl⟩⟩))⟩
theorem wfl_12_92 : pFL 12 (92, 12, 39, 0) := ⟨TX12, 55, tyX12, rfl, inT12, tyX12_ok, nmX12, by decide, tbT 1447 (by decide +kernel) rfl, rfl, (fun h => by cases h), Or.inl ⟨rfl, rfl⟩⟩
theorem wfl_12_95 : pFL 12 (95, 12, 43, 12) := ⟨TX12, 55, tyX12, rfl, inT12, tyX12_ok, nmX12, by decide, tbT 1451 (by decide +kernel) rfl, rfl, (fun _ _ => rfl), Or.inr (Or.inr (Or.inl ⟨rfl, Or.inr ⟨_, rfl⟩⟩))⟩
theorem wfl_12_98 : pFL 12 (98, 12, 45, 12) := ⟨TX12, 55, tyX12, rfl, inT12, tyX12_ok, nmX12, by decide, tbT 1453 (by decide +kernel) rfl, rfl, (fun _ _ => rfl), Or.inr (Or.inr (Or.inl ⟨rfl, Or.inr ⟨_, rfl⟩⟩))⟩
theorem wfl_12_101 : pFL 12 (101, 12, 51, 12) := ⟨TX12, 55, tyX12, rfl, inT12, tyX12_ok, nmX12, by decide, tbT 1459 (by decide +kernel) rfl, rfl, (fun _ _ => rfl), Or.inr (Or.inr (Or.inl ⟨rfl, Or.inr ⟨_, rfl⟩⟩))⟩
theorem wfl_12_105 : pFL 12 (105, 12, 52, 12) := ⟨TX12, 55, tyX12, rfl, inT12, tyX12_ok, nmX12, by decide, tbT 1460 (by decide +kernel) rfl, rfl, (fun _ _ => rfl), Or.inr (Or.inr (Or.inl ⟨rfl, Or.inr ⟨_, rfl⟩⟩))⟩
theorem wfl_12_108 : pFL 12 (108, 12, 53, 12) := ⟨TX12, 55, tyX12, rfl, inT12, tyX12_ok, nmX12, by decide, tbT 1461 (by decide +kernel) rfl, rfl, (fun _ _ => rfl), Or.inr (Or.inr (Or.inl ⟨rfl, Or.inr ⟨_, rfl⟩⟩))⟩
theorem wfl_12_111 : pFL 12 (111, 12, 54, 12) := ⟨TX12, 55, tyX12, rfl, inT12, tyX12_ok, nmX12, by decide, tbT 1462 (by decide +kernel) rfl, rfl, (fun _ _ => rfl), Or.inr (Or.inr (Or.inl ⟨rfl, Or.inr ⟨_, rfl⟩⟩))⟩
theorem wfl_12 : ∀ x ∈ efl_12, pFL 12 x := List.forall_mem_cons.mpr ⟨wfl_12_14, List.forall_mem_cons.mpr ⟨wfl_12_33, List.forall_mem_cons.mpr ⟨wfl_12_37, List.forall_mem_cons.mpr ⟨wfl_12_40, List.forall_mem_cons.mpr ⟨wfl_12_43, List.forall_mem_cons.mpr ⟨wfl_12_47, List.forall_mem_cons.mpr ⟨wfl_12_50, List.forall_mem_cons.mpr ⟨wfl_12_53, List.forall_mem_cons.mpr ⟨wfl_12_56, List.forall_mem_cons.mpr ⟨wfl_12_59, List.forall_mem_cons.mpr ⟨wfl_12_62, List.forall_mem_cons.mpr ⟨wfl_12_65, List.forall_mem_cons.mpr ⟨wfl_12_68, List.forall_mem_cons.mpr ⟨wfl_12_71, List.forall_mem_cons.mpr ⟨wfl_12_74, List.forall_mem_cons.mpr ⟨wfl_12_77, List.forall_mem_cons.mpr ⟨wfl_12_80, List.forall_mem_cons.mpr ⟨wfl_12_83, List.forall_mem_cons.mpr ⟨wfl_12_86, List.forall_mem_cons.mpr ⟨wfl_12_89, List.forall_mem_cons.mpr ⟨wfl_12_92, List.forall_mem_cons.mpr ⟨wfl_12_95, List.forall_mem_cons.mpr ⟨wfl_12_98, List.forall_mem_cons.mpr ⟨wfl_12_101, List.forall_mem_cons.mpr ⟨wfl_12_105, List.forall_mem_cons.mpr ⟨wfl_12_108, List.forall_mem_cons.mpr ⟨wfl_12_111, fun _ h => absurd h List.not_mem_nil⟩⟩⟩⟩⟩⟩⟩⟩⟩⟩⟩⟩⟩⟩⟩⟩⟩⟩⟩⟩⟩⟩⟩⟩⟩⟩⟩
theorem wfl_13 : ∀ x ∈ efl_13, pFL 13 x := fun _ h => absurd h List.not_mem_nil
theorem wfl_14 : ∀ x ∈ efl_14, pFL 14 x := fun _ h => absurd h List.not_mem_nil
theorem wfl_15 : ∀ x ∈ efl_15, pFL 15 x := fun _ h => absurd h List.not_mem_nil
theorem wfl_16 : ∀ x ∈ efl_16, pFL 16 x := fun _ h => absurd h List.not_mem_nil
theorem wfl : eAll pFL 0 efl := ⟨wfl_0, wfl_1, wfl_2, wfl_3, wfl_4, wfl_5, wfl_6, wfl_7, wfl_8, wfl_9, wfl_10, wfl_11, wfl_12, wfl_13, wfl_14, wfl_15, wfl_16, trivial⟩
theorem w_FL : eFOK vwCl Tb1 eCN eFL1 := fun o idx q h => ga2_all (P := pFL) wfl h
def pNW (o : Nat) (x : Nat × Nat × Nat × List eV) : Prop := ∃ (T : u_T) (ty : Nat → FieldType) (fs : List Value), vwCl[x.2.1]? = some (eCN x.2.1, T, x.2.2.1) ∧ (∀ w ∈ u_ws (eCN x.2.1) T x.2.2.1, w ∈ Tb1) ∧ (∀ k, k < x.2.2.1 → parseFieldDescriptor (T k).2.2.1 = some (ty k))
  ∧ Cond.classLink (eCN o) x.1 (eCN x.2.1) ∈ Tb1 ∧ Cond.instantiable (eCN x.2.1) x.2.2.1 ∈ Tb1 ∧ Cond.initialized (eCN x.2.1) ∈ Tb1 ∧ (∀ j, j < x.2.2.1 → defaultValue (ty j) = vp_V fs j) ∧ ∀ (ρ : Nat → Int32) (b : Nat) (ad : List Nat), eRs ρ b ad x.2.2.2 fs
theorem wnw_0 : ∀ x ∈ enw_0, pNW 0 x := fun _ h => absurd h List.not_mem_nil
theorem wnw_1 : ∀ x ∈ enw_1, pNW 1 x := fun _ h => absurd h List.not_mem_nil
theorem wnw_2 : ∀ x ∈ enw_2, pNW 2 x := fun _ h => absurd h List.not_mem_nil
theorem wnw_3 : ∀ x ∈ enw_3, pNW 3 x := fun _ h => absurd h List.not_mem_nil
theorem wnw_4 : ∀ x ∈ enw_4, pNW 4 x := fun _ h => absurd h List.not_mem_nil
theorem wnw_5_11 : pNW 5 (11, 1, 10, [eN, eN, eN, eN, eN, .inl 0, .inl 0, .inl 0, .inl 0, .inl 0]) := ⟨TX1, tyX1, [.null, .null, .null, .null, .null, .int 0, .int 0, .int 0, .int 0, .int 0], rfl, inT1, tyX1_ok, tbT 264 (by decide +kernel) rfl, tbT 194 (by decide +kernel) rfl, tbT 8 (by decide +kernel) rfl, by decide, fun _ _ _ => by repeat (first | exact trivial | refine ⟨rfl, ?_⟩ | refine ⟨⟨_, rfl⟩, ?_⟩)⟩
theorem wnw_5 : ∀ x ∈ enw_5, pNW 5 x := List.forall_mem_cons.mpr ⟨wnw_5_11, fun _ h => absurd h List.not_mem_nil⟩
theorem wnw_6 : ∀ x ∈ enw_6, pNW 6 x := fun _ h => absurd h List.not_mem_nil
theorem wnw_7 : ∀ x ∈ enw_7, pNW 7 x := fun _ h => absurd h List.not_mem_nil
theorem wnw_8 : ∀ x ∈ enw_8, pNW 8 x := fun _ h => absurd h List.not_mem_nil
theorem wnw_9_9 : pNW 9 (9, 8, 10, [eN, eN, eN, eN, eN, eN, eN, eN, .inl 0, .inl 0]) := ⟨TX8, tyX8, [.null, .null, .null, .null, .null, .null, .null, .null, .int 0, .int 0], rfl, inT8, tyX8_ok, tbT 306 (by decide +kernel) rfl, tbT 143 (by decide +kernel) rfl, tbT 7 (by decide +kernel) rfl, by decide, fun _ _ _ => by repeat (first | exact trivial | refine ⟨rfl, ?_⟩ | refine ⟨⟨_, rfl⟩, ?_⟩)⟩
theorem wnw_9_18 : pNW 9 (18, 1, 10, [eN, eN, eN, eN, eN, .inl 0, .inl 0, .inl 0, .inl 0, .inl 0]) := ⟨TX1, tyX1, [.null, .null, .null, .null, .null, .int 0, .int 0, .int 0, .int 0, .int 0], rfl, inT1, tyX1_ok, tbT 308 (by decide +kernel) rfl, tbT 194 (by decide +kernel) rfl, tbT 8 (by decide +kernel) rfl, by decide, fun _ _ _ => by repeat (first | exact trivial | refine ⟨rfl, ?_⟩ | refine ⟨⟨_, rfl⟩, ?_⟩)⟩
theorem wnw_9 : ∀ x ∈ enw_9, pNW 9 x := List.forall_mem_cons.mpr ⟨wnw_9_9, List.forall_mem_cons.mpr ⟨wnw_9_18, fun _ h => absurd h List.not_mem_nil⟩⟩
theorem wnw_10 : ∀ x ∈ enw_10, pNW 10 x := fun _ h => absurd h List.not_mem_nil
theorem wnw_11_7 : pNW 11 (7, 7, 11, [eN, .inl 0, .inl 0, .inl 0, .inl 0, .inl 0, .inl 0, eL, eN, .inl 0, .inl 0]) := ⟨TX7, tyX7, [.null, .int 0, .int 0, .int 0, .int 0, .int 0, .int 0, .long 0, .null, .int 0, .int 0], rfl, inT7, tyX7_ok, tbT 34 (by decide +kernel) rfl, tbT 35 (by decide +kernel) rfl, tbT 2 (by decide +kernel) rfl, by decide, fun _ _ _ => by repeat (first | exact trivial | refine ⟨rfl, ?_⟩ | refine ⟨⟨_, rfl⟩, ?_⟩)⟩
theorem wnw_11_16 : pNW 11 (16, 8, 10, [eN, eN, eN, eN, eN, eN, eN, eN, .inl 0, .inl 0]) := ⟨TX8, tyX8, [.null, .null, .null, .null, .null, .null, .null, .null, .int 0, .int 0], rfl, inT8, tyX8_ok, tbT 142 (by decide +kernel) rfl, tbT 143 (by decide +kernel) rfl, tbT 7 (by decide +kernel) rfl, by decide, fun _ _ _ => by repeat (first | exact trivial | refine ⟨rfl, ?_⟩ | refine ⟨⟨_, rfl⟩, ?_⟩)⟩
theorem wnw_11_23 : pNW 11 (23, 1, 10, [eN, eN, eN, eN, eN, .inl 0, .inl 0, .inl 0, .inl 0, .inl 0]) := ⟨TX1, tyX1, [.null, .null, .null, .null, .null, .int 0, .int 0, .int 0, .int 0, .int 0], rfl, inT1, tyX1_ok, tbT 193 (by decide +kernel) rfl, tbT 194 (by decide +kernel) rfl, tbT 8 (by decide +kernel) rfl, by decide, fun _ _ _ => by repeat (first | exact trivial | refine ⟨rfl, ?_⟩ | refine ⟨⟨_, rfl⟩, ?_⟩)⟩
theorem wnw_11_33 : pNW 11 (33, 5, 3, [eN, .inl 0, .inl 0]) := ⟨TX5, tyX5, [.null, .int 0, .int 0], rfl, inT5, tyX5_ok, tbT 258 (by decide +kernel) rfl, tbT 259 (by decide +kernel) rfl, tbT 10 (by decide +kernel) rfl, by decide, fun _ _ _ => by repeat (first | exact trivial | refine ⟨rfl, ?_⟩ | refine ⟨⟨_, rfl⟩, ?_⟩)⟩
theorem wnw_11_40 : pNW 11 (40, 6, 5, [eN, eN, eN, .inl 0, .inl 0]) := ⟨TX6, tyX6, [.null, .null, .null, .int 0, .int 0], rfl, inT6, tyX6_ok, tbT 277 (by decide +kernel) rfl, tbT 278 (by decide +kernel) rfl, tbT 11 (by decide +kernel) rfl, by decide, fun _ _ _ => by repeat (first | exact trivial | refine ⟨rfl, ?_⟩ | refine ⟨⟨_, rfl⟩, ?_⟩)⟩
theorem wnw_11_50 : pNW 11 (50, 9, 2, [eN, eN]) := ⟨TX9, tyX9, [.null, .null], rfl, inT9, tyX9_ok, tbT 300 (by decide +kernel) rfl, tbT 301 (by decide +kernel) rfl, tbT 12 (by decide +kernel) rfl, by decide, fun _ _ _ => by repeat (first | exact trivial | refine ⟨rfl, ?_⟩ | refine ⟨⟨_, rfl⟩, ?_⟩)⟩
theorem wnw_11_57 : pNW 11 (57, 0, 10, [eN, eN, eN, eN, .inl 0, .inl 0, .inl 0, .inl 0, .inl 0, .inl 0]) := ⟨TX0, tyX0, [.null, .null, .null, .null, .int 0, .int 0, .int 0, .int 0, .int 0, .int 0], rfl, inT0, tyX0_ok, tbT 319 (by decide +kernel) rfl, tbT 320 (by decide +kernel) rfl, tbT 13 (by decide +kernel) rfl, by decide, fun _ _ _ => by repeat (first | exact trivial | refine ⟨rfl, ?_⟩ | refine ⟨⟨_, rfl⟩, ?_⟩)⟩
theorem wnw_11_64 : pNW 11 (64, 10, 6, [eN, eN, eN, eN, .inl 0, .inl 0]) := ⟨TX10, tyX10, [.null, .null, .null, .null, .int 0, .int 0], rfl, inT10, tyX10_ok, tbT 361 (by decide +kernel) rfl, tbT 362 (by decide +kernel) rfl, tbT 14 (by decide +kernel) rfl, by decide, fun _ _ _ => by repeat (first | exact trivial | refine ⟨rfl, ?_⟩ | refine ⟨⟨_, rfl⟩, ?_⟩)⟩
theorem wnw_11_71 : pNW 11 (71, 3, 2, [eN, eN]) := ⟨TX3, tyX3, [.null, .null], rfl, inT3, tyX3_ok, tbT 389 (by decide +kernel) rfl, tbT 390 (by decide +kernel) rfl, tbT 15 (by decide +kernel) rfl, by decide, fun _ _ _ => by repeat (first | exact trivial | refine ⟨rfl, ?_⟩ | refine ⟨⟨_, rfl⟩, ?_⟩)⟩
theorem wnw_11_78 : pNW 11 (78, 4, 8, [eN, .inl 0, eN, eN, .inl 0, eN, eN, eN]) := ⟨TX4, tyX4, [.null, .int 0, .null, .null, .int 0, .null, .null, .null], rfl, inT4, tyX4_ok, tbT 402 (by decide +kernel) rfl, tbT 403 (by decide +kernel) rfl, tbT 16 (by decide +kernel) rfl, by decide, fun _ _ _ => by repeat (first | exact trivial | refine ⟨rfl, ?_⟩ | refine ⟨⟨_, rfl⟩, ?_⟩)⟩
theorem wnw_11_85 : pNW 11 (85, 2, 1, [.inl 0]) := ⟨TX2, tyX2, [.int 0], rfl, inT2, tyX2_ok, tbT 438 (by decide +kernel) rfl, tbT 439 (by decide +kernel) rfl, tbT 17 (by decide +kernel) rfl, by decide, fun _ _ _ => by repeat (first | exact trivial | refine ⟨rfl, ?_⟩ | refine ⟨⟨_, rfl⟩, ?_⟩)⟩
theorem wnw_11 : ∀ x ∈ enw_11, pNW 11 x := List.forall_mem_cons.mpr ⟨wnw_11_7, List.forall_mem_cons.mpr ⟨wnw_11_16, List.forall_mem_cons.mpr ⟨wnw_11_23, List.forall_mem_cons.mpr ⟨wnw_11_33, List.forall_mem_cons.mpr ⟨wnw_11_40, List.forall_mem_cons.mpr ⟨wnw_11_50, List.forall_mem_cons.mpr ⟨wnw_11_57, List.forall_mem_cons.mpr ⟨wnw_11_64, List.forall_mem_cons.mpr ⟨wnw_11_71, List.forall_mem_cons.mpr ⟨wnw_11_78, List.forall_mem_cons.mpr ⟨wnw_11_85, fun _ h => absurd h List.not_mem_nil⟩⟩⟩⟩⟩⟩⟩⟩⟩⟩⟩
theorem wnw_12 : ∀ x ∈ enw_12, pNW 12 x := fun _ h => absurd h List.not_mem_nil
theorem wnw_13_8 : pNW 13 (8, 11, 17, [eN, eN, eN, eN, eN, eN, eN, eN, eN, eN, eN, eN, eN, eN, eN, eN, .inl 0]) := ⟨TX11, tyX11, [.null, .null, .null, .null, .null, .null, .null, .null, .null, .null, .null, .null, .null, .null, .null, .null, .int 0], rfl, inT11, tyX11_ok, tbT 26 (by decide +kernel) rfl, tbT 27 (by decide +kernel) rfl, tbT 1 (by decide +kernel) rfl, by decide, fun _ _ _ => by repeat (first | exact trivial | refine ⟨rfl, ?_⟩ | refine ⟨⟨_, rfl⟩, ?_⟩)⟩
theorem wnw_13_16 : pNW 13 (16, 12, 55, [.inl 0, eN, .inl 0, .inl 0, .inl 0, .inl 0, eN, eN, eN, eN, eN, .inl 0, .inl 0, .inl 0, .inl 0, .inl 0, .inl 0, eL, .inl 0, .inl 0, eN, eN, .inl 0, eN, eN, eN, .inl 0, .inl 0, .inl 0, eN, eN, eN, eN, eN, eN, .inl 0, eN, eN, eN, .inl 0, .inl 0, .inl 0, .inl 0, eN, .inl 0, eN, .inl 0, .inl 0, .inl 0, .inl 0, .inl 0, eN, eN, eN, eN]) := ⟨TX12, tyX12, [.int 0, .null, .int 0, .int 0, .int 0, .int 0, .null, .null, .null, .null, .null, .int 0, .int 0, .int 0, .int 0, .int 0, .int 0, .long 0, .int 0, .int 0, .null, .null, .int 0, .null, .null, .null, .int 0, .int 0, .int 0, .null, .null, .null, .null, .null, .null, .int 0, .null, .null, .null, .int 0, .int 0, .int 0, .int 0, .null, .int 0, .null, .int 0, .int 0, .int 0, .int 0, .int 0, .null, .null, .null, .null], rfl, inT12, tyX12_ok, tbT 1373 (by decide +kernel) rfl, tbT 1367 (by decide +kernel) rfl, tbT 18 (by decide +kernel) rfl, by decide, fun _ _ _ => by repeat (first | exact trivial | refine ⟨rfl, ?_⟩ | refine ⟨⟨_, rfl⟩, ?_⟩)⟩
theorem wnw_13 : ∀ x ∈ enw_13, pNW 13 x := List.forall_mem_cons.mpr ⟨wnw_13_8, List.forall_mem_cons.mpr ⟨wnw_13_16, fun _ h => absurd h List.not_mem_nil⟩⟩
theorem wnw_14 : ∀ x ∈ enw_14, pNW 14 x := fun _ h => absurd h List.not_mem_nil
theorem wnw_15 : ∀ x ∈ enw_15, pNW 15 x := fun _ h => absurd h List.not_mem_nil
theorem wnw_16 : ∀ x ∈ enw_16, pNW 16 x := fun _ h => absurd h List.not_mem_nil
theorem wnw : eAll pNW 0 enw := ⟨wnw_0, wnw_1, wnw_2, wnw_3, wnw_4, wnw_5, wnw_6, wnw_7, wnw_8, wnw_9, wnw_10, wnw_11, wnw_12, wnw_13, wnw_14, wnw_15, wnw_16, trivial⟩
theorem w_NW : eNOK vwCl Tb1 eCN eNW1 := fun o idx q h => ga2_all (P := pNW) wnw h
def nestW : List Cond := [.methodLinkNest "WardrobeRow" 18 ⟨"WardrobeRow$Terrace", "<init>", "()V"⟩ "WardrobeRow", .methodLinkNest "WardrobeRow" 42 ⟨"WardrobeRow$Sentence", "<init>", "()V"⟩ "WardrobeRow", .methodLinkNest "WardrobeRow" 52 ⟨"WardrobeRow$TerraceReader", "<init>", "()V"⟩ "WardrobeRow", .methodLinkNest "WardrobeRow" 59 ⟨"WardrobeRow$Book", "<init>", "()V"⟩ "WardrobeRow", .methodLinkNest "WardrobeRow" 66 ⟨"WardrobeRow$Ways", "<init>", "()V"⟩ "WardrobeRow", .methodLinkNest "WardrobeRow" 73 ⟨"WardrobeRow$Fires", "<init>", "()V"⟩ "WardrobeRow", .methodLinkNest "WardrobeRow" 80 ⟨"WardrobeRow$Market", "<init>", "()V"⟩ "WardrobeRow", .methodLinkNest "WardrobeRow" 87 ⟨"WardrobeRow$Draws", "<init>", "()V"⟩ "WardrobeRow", .methodLinkNest "WardrobeRow$TerraceReader" 11 ⟨"WardrobeRow$Terrace", "<init>", "()V"⟩ "WardrobeRow", .methodLinkNest "WardrobeRow$Deeds" 55 ⟨"WardrobeRow", "has", "(II)Z"⟩ "WardrobeRow", .methodLinkNest "WardrobeRow$Deeds" 59 ⟨"WardrobeRow", "bit", "(I)I"⟩ "WardrobeRow", .methodLinkNest "WardrobeRow$Deeds" 63 ⟨"WardrobeRow", "isBelow", "(II)Z"⟩ "WardrobeRow", .methodLinkNest "WardrobeRow$Fires" 33 ⟨"WardrobeRow", "has", "(II)Z"⟩ "WardrobeRow", .methodLinkNest "WardrobeRow$Fires" 63 ⟨"WardrobeRow", "bit", "(I)I"⟩ "WardrobeRow", .methodLinkNest "WardrobeRow$Market" 44 ⟨"WardrobeRow", "isBelow", "(II)Z"⟩ "WardrobeRow", .methodLinkNest "WardrobeRow$Market" 73 ⟨"WardrobeRow", "has", "(II)Z"⟩ "WardrobeRow", .methodLinkNest "WardrobeRow$Market" 88 ⟨"WardrobeRow", "bit", "(I)I"⟩ "WardrobeRow", .methodLinkNest "WardrobeRow$Sentence" 128 ⟨"WardrobeRow", "bit", "(I)I"⟩ "WardrobeRow", .methodLinkNest "WardrobeRow$Terrace" 56 ⟨"WardrobeRow", "isBelow", "(II)Z"⟩ "WardrobeRow", .methodLinkNest "WardrobeRow$Terrace" 82 ⟨"WardrobeRow", "bit", "(I)I"⟩ "WardrobeRow", .methodLinkNest "WardrobeRow$Terrace" 88 ⟨"WardrobeRow", "has", "(II)Z"⟩ "WardrobeRow", .methodLinkNest "WardrobeRow$TerraceReader" 103 ⟨"WardrobeRow", "isBelow", "(II)Z"⟩ "WardrobeRow", .methodLinkNest "WardrobeRow$TerraceReader" 130 ⟨"WardrobeRow", "has", "(II)Z"⟩ "WardrobeRow", .methodLinkNest "WardrobeRow$TerraceReader" 133 ⟨"WardrobeRow", "bit", "(I)I"⟩ "WardrobeRow", .methodLinkNest "WardrobeRow$Ways" 43 ⟨"WardrobeRow", "has", "(II)Z"⟩ "WardrobeRow", .methodLinkNest "WardrobeRow$Ways" 46 ⟨"WardrobeRow", "bit", "(I)I"⟩ "WardrobeRow", .methodLinkNest "WardrobeRow$Ways" 78 ⟨"WardrobeRow", "isBelow", "(II)Z"⟩ "WardrobeRow"]
def aoW : List String := [RX1, RX6, RX8]
/-- the claim's literals: their places in the pools, their lengths, their bytes -/
def scTm : Nat → Term := fun i => match i with
  | 0 => .string "WardrobeRow$Tape" 23
  | 1 => .string "WardrobeRow$Tape" 25
  | 2 => .string "WardrobeRow$Tape" 27
  | _ => .string "WardrobeRow" 145
def scLen : List Nat := [63, 70, 77, 39]
def scByt : List (List Int32) := [[104, 111, 117, 115, 101, 32, 32, 111, 119, 110, 101, 114, 32, 32, 114, 111, 111, 109, 32, 32, 32, 100, 111, 111, 114, 32, 32, 32, 114, 111, 98, 101, 32, 32, 32, 97, 116, 32, 32, 32, 32, 32, 108, 101, 97, 118, 101, 32, 32, 104, 101, 105, 114, 32, 32, 32, 108, 105, 107, 101, 115, 32, 32], [103, 111, 101, 115, 32, 32, 32, 115, 101, 108, 108, 115, 32, 32, 108, 101, 116, 115, 32, 32, 32, 98, 97, 114, 115, 32, 32, 32, 100, 105, 101, 115, 32, 32, 32, 119, 105, 108, 108, 115, 32, 32, 115, 104, 117, 116, 115, 32, 32, 111, 112, 101, 110, 115, 32, 32, 98, 117, 114, 110, 115, 32, 32, 109, 105, 110, 117, 116, 101, 32], [111, 114, 32, 32, 32, 32, 32, 97, 110, 100, 32, 32, 32, 32, 110, 111, 116, 32, 32, 32, 32, 98, 117, 114, 110, 116, 32, 32, 102, 114, 101, 101, 32, 32, 32, 111, 102, 32, 32, 32, 32, 32, 105, 110, 32, 32, 32, 32, 32, 112, 101, 111, 112, 108, 101, 32, 100, 111, 111, 114, 115, 32, 32, 119, 111, 114, 116, 104, 32, 32, 110, 117, 109, 98, 101, 114, 32], [110, 111, 32, 115, 117, 99, 104, 32, 114, 111, 111, 109, 44, 32, 111, 114, 32, 110, 111, 116, 104, 105, 110, 103, 32, 115, 117, 99, 104, 32, 111, 102, 32, 97, 32, 114, 111, 111, 109]]
def scTx : Nat → String := fun i => match i with
  | 0 => "house  owner  room   door   robe   at     leave  heir   likes  "
  | 1 => "goes   sells  lets   bars   dies   wills  shuts  opens  burns  minute "
  | 2 => "or     and    not    burnt  free   of     in     people doors  worth  number "
  | _ => "no such room, or nothing such of a room"
/-- what of the state ahead of the law stays as it is -/
def HF1 (base : Nat) (s : State) : Prop := ∃ adK adV : Nat → Nat, vk_S 4 scLen scByt adK adV (fun q => base ≤ q) s s.heap ∧ vk_R "WardrobeRow$Tape" 23 (scTx 0) (adK 0) s ∧ vk_R "WardrobeRow$Tape" 25 (scTx 1) (adK 1) s ∧ vk_R "WardrobeRow$Tape" 27 (scTx 2) (adK 2) s ∧ vk_R "WardrobeRow" 145 (scTx 3) (adK 3) s
  ∧ va_Z "java/lang/String" "COMPACT_STRINGS" "Z" (.int 1) (fun q => base ≤ q) s s.heap ∧ va_Zq "jdk/internal/util/Preconditions" "SIOOBE_FORMATTER" "Ljava/util/function/BiFunction;" (fun q => base ≤ q) s s.heap ∧ vx_Zq "java/lang/Throwable" "UNASSIGNED_STACK" "[Ljava/lang/StackTraceElement;" (fun q => base ≤ q) s s.heap ∧ vx_Zq "java/lang/Throwable" "SUPPRESSED_SENTINEL" "Ljava/util/List;" (fun q => base ≤ q) s s.heap ∧ (va_Nw (.castable "java/util/NoSuchElementException" "java/util/NoSuchElementException") s ∧ va_Nw (.declares ⟨"java/lang/RuntimeException", "<init>", "(Ljava/lang/String;)V"⟩) s ∧ va_Nw (.declares ⟨"java/lang/Exception", "<init>", "(Ljava/lang/String;)V"⟩) s ∧ va_Nw (.declares ⟨"java/lang/Throwable", "<init>", "(Ljava/lang/String;)V"⟩) s)
def NF1 (base : Nat) (s : State) : Prop := (∀ w ∈ nestW, va_Nw w s) ∧ (∀ C ∈ aoW, va_AO C s) ∧ HF1 base s
theorem nest_is : ∀ w ∈ nestW, w.onTables = true ∧ ∃ a i x h, w = .methodLinkNest a i x h := List.forall_mem_cons.mpr ⟨⟨rfl, _, _, _, _, rfl⟩, List.forall_mem_cons.mpr ⟨⟨rfl, _, _, _, _, rfl⟩, List.forall_mem_cons.mpr ⟨⟨rfl, _, _, _, _, rfl⟩, List.forall_mem_cons.mpr ⟨⟨rfl, _, _, _, _, rfl⟩, List.forall_mem_cons.mpr ⟨⟨rfl, _, _, _, _, rfl⟩, List.forall_mem_cons.mpr ⟨⟨rfl, _, _, _, _, rfl⟩, List.forall_mem_cons.mpr ⟨⟨rfl, _, _, _, _, rfl⟩, List.forall_mem_cons.mpr ⟨⟨rfl, _, _, _, _, rfl⟩, List.forall_mem_cons.mpr ⟨⟨rfl, _, _, _, _, rfl⟩, List.forall_mem_cons.mpr ⟨⟨rfl, _, _, _, _, rfl⟩, List.forall_mem_cons.mpr ⟨⟨rfl, _, _, _, _, rfl⟩, List.forall_mem_cons.mpr ⟨⟨rfl, _, _, _, _, rfl⟩, List.forall_mem_cons.mpr ⟨⟨rfl, _, _, _, _, rfl⟩, List.forall_mem_cons.mpr ⟨⟨rfl, _, _, _, _, rfl⟩, List.forall_mem_cons.mpr ⟨⟨rfl, _, _, _, _, rfl⟩, List.forall_mem_cons.mpr ⟨⟨rfl, _, _, _, _, rfl⟩, List.forall_mem_cons.mpr ⟨⟨rfl, _, _, _, _, rfl⟩, List.forall_mem_cons.mpr ⟨⟨rfl, _, _, _, _, rfl⟩, List.forall_mem_cons.mpr ⟨⟨rfl, _, _, _, _, rfl⟩, List.forall_mem_cons.mpr ⟨⟨rfl, _, _, _, _, rfl⟩, List.forall_mem_cons.mpr ⟨⟨rfl, _, _, _, _, rfl⟩, List.forall_mem_cons.mpr ⟨⟨rfl, _, _, _, _, rfl⟩, List.forall_mem_cons.mpr ⟨⟨rfl, _, _, _, _, rfl⟩, List.forall_mem_cons.mpr ⟨⟨rfl, _, _, _, _, rfl⟩, List.forall_mem_cons.mpr ⟨⟨rfl, _, _, _, _, rfl⟩, List.forall_mem_cons.mpr ⟨⟨rfl, _, _, _, _, rfl⟩, List.forall_mem_cons.mpr ⟨⟨rfl, _, _, _, _, rfl⟩, fun _ h => absurd h List.not_mem_nil⟩⟩⟩⟩⟩⟩⟩⟩⟩⟩⟩⟩⟩⟩⟩⟩⟩⟩⟩⟩⟩⟩⟩⟩⟩⟩⟩
theorem v_NF (base : Nat) : eNFw base (NF1 base) := by
  refine ⟨fun s U h hW hz hk => ⟨fun w hw => ?_, fun C hC => va_AO.moved hW.alike (h.2.1 C hC), ?_⟩, fun s U h hv hh => ⟨fun w hw => ?_, fun C hC => va_AO.moved (by rw [hv]; exact Vm.Alike.refl _) (h.2.1 C hC), ?_⟩⟩
  · obtain ⟨-, a, i, x, q, rfl⟩ := nest_is w hw
    exact va_Nw.warmM hW (h.1 _ hw)
  · obtain ⟨adK, adV, h1, h2, h3, h4, h5, h6, h7, h8, h9, h10⟩ := h.2.2
    exact ⟨adK, adV, (h1.kept hk).moved hW.alike, vk_R.warm hW h2, vk_R.warm hW h3, vk_R.warm hW h4, vk_R.warm hW h5, (h6.kept hk).moved hW.alike, (h7.kept hk).moved hW.alike, (h8.kept hk).moved hW.alike, (h9.kept hk).moved hW.alike, ⟨va_Nw.warmC hW h10.1, va_Nw.warmD hW h10.2.1, va_Nw.warmD hW h10.2.2.1, va_Nw.warmD hW h10.2.2.2⟩⟩
  · exact va_tabs (nest_is w hw).1 hv (h.1 w hw)
  · obtain ⟨adK, adV, h1, h2, h3, h4, h5, h6, h7, h8, h9, h10⟩ := h.2.2
    have hal : s.vm.Alike U.vm := by rw [hv]; exact Vm.Alike.refl _
    have hk : ∀ a : Nat, a < s.heap.size → ¬ base ≤ a → U.heap[a]? = s.heap[a]? := fun a _ _ => by rw [hh]
    exact ⟨adK, adV, (h1.kept hk).moved hal, vk_R.same hv.symm h2, vk_R.same hv.symm h3, vk_R.same hv.symm h4, vk_R.same hv.symm h5, (h6.kept hk).moved hal, (h7.kept hk).moved hal, (h8.kept hk).moved hal, (h9.kept hk).moved hal, ⟨va_tabs rfl hv h10.1, va_tabs rfl hv h10.2.1, va_tabs rfl hv h10.2.2.1, va_tabs rfl hv h10.2.2.2⟩⟩
theorem nf_G {base : Nat} : ∀ s, NF1 base s → ∀ w ∈ nestG, va_Nw w s := fun s h w hw => h.1 w (show w ∈ nestW from List.mem_append_right (nestW.take 9) hw)
def pNA (base o : Nat) (x : Nat × Nat) : Prop := ∃ r : vw_C, vwCl[x.2]? = some r ∧ Cond.classLink (eCN o) x.1 r.1 ∈ Tb1 ∧ ∀ s : State, NF1 base s → va_AO r.1 s
theorem wna_0 (base : Nat) : ∀ x ∈ ena_0, pNA base 0 x := fun _ h => absurd h List.not_mem_nil
theorem wna_1 (base : Nat) : ∀ x ∈ ena_1, pNA base 1 x := fun _ h => absurd h List.not_mem_nil
theorem wna_2 (base : Nat) : ∀ x ∈ ena_2, pNA base 2 x := fun _ h => absurd h List.not_mem_nil
theorem wna_3 (base : Nat) : ∀ x ∈ ena_3, pNA base 3 x := fun _ h => absurd h List.not_mem_nil
theorem wna_4 (base : Nat) : ∀ x ∈ ena_4, pNA base 4 x := fun _ h => absurd h List.not_mem_nil
theorem wna_5_11 (base : Nat) : pNA base 5 (11, 1) := ⟨(RX1, TX1, 10), rfl, tbT 264 (by decide +kernel) rfl, fun s h => h.2.1 _ (List.mem_of_getElem? (i := 0) rfl)⟩
theorem wna_5 (base : Nat) : ∀ x ∈ ena_5, pNA base 5 x := List.forall_mem_cons.mpr ⟨(wna_5_11 base), fun _ h => absurd h List.not_mem_nil⟩
theorem wna_6 (base : Nat) : ∀ x ∈ ena_6, pNA base 6 x := fun _ h => absurd h List.not_mem_nil
theorem wna_7 (base : Nat) : ∀ x ∈ ena_7, pNA base 7 x := fun _ h => absurd h List.not_mem_nil
theorem wna_8 (base : Nat) : ∀ x ∈ ena_8, pNA base 8 x := fun _ h => absurd h List.not_mem_nil
theorem wna_9 (base : Nat) : ∀ x ∈ ena_9, pNA base 9 x := fun _ h => absurd h List.not_mem_nil
theorem wna_10 (base : Nat) : ∀ x ∈ ena_10, pNA base 10 x := fun _ h => absurd h List.not_mem_nil
theorem wna_11_16 (base : Nat) : pNA base 11 (16, 8) := ⟨(RX8, TX8, 10), rfl, tbT 142 (by decide +kernel) rfl, fun s h => h.2.1 _ (List.mem_of_getElem? (i := 2) rfl)⟩
theorem wna_11_23 (base : Nat) : pNA base 11 (23, 1) := ⟨(RX1, TX1, 10), rfl, tbT 193 (by decide +kernel) rfl, fun s h => h.2.1 _ (List.mem_of_getElem? (i := 0) rfl)⟩
theorem wna_11_40 (base : Nat) : pNA base 11 (40, 6) := ⟨(RX6, TX6, 5), rfl, tbT 277 (by decide +kernel) rfl, fun s h => h.2.1 _ (List.mem_of_getElem? (i := 1) rfl)⟩
theorem wna_11 (base : Nat) : ∀ x ∈ ena_11, pNA base 11 x := List.forall_mem_cons.mpr ⟨(wna_11_16 base), List.forall_mem_cons.mpr ⟨(wna_11_23 base), List.forall_mem_cons.mpr ⟨(wna_11_40 base), fun _ h => absurd h List.not_mem_nil⟩⟩⟩
theorem wna_12 (base : Nat) : ∀ x ∈ ena_12, pNA base 12 x := fun _ h => absurd h List.not_mem_nil
theorem wna_13 (base : Nat) : ∀ x ∈ ena_13, pNA base 13 x := fun _ h => absurd h List.not_mem_nil
theorem wna_14 (base : Nat) : ∀ x ∈ ena_14, pNA base 14 x := fun _ h => absurd h List.not_mem_nil
theorem wna_15 (base : Nat) : ∀ x ∈ ena_15, pNA base 15 x := fun _ h => absurd h List.not_mem_nil
theorem wna_16 (base : Nat) : ∀ x ∈ ena_16, pNA base 16 x := fun _ h => absurd h List.not_mem_nil
theorem wna (base : Nat) : eAll (pNA base) 0 ena := ⟨(wna_0 base), (wna_1 base), (wna_2 base), (wna_3 base), (wna_4 base), (wna_5 base), (wna_6 base), (wna_7 base), (wna_8 base), (wna_9 base), (wna_10 base), (wna_11 base), (wna_12 base), (wna_13 base), (wna_14 base), (wna_15 base), (wna_16 base), trivial⟩
theorem w_NA (base : Nat) : eAOK vwCl Tb1 (NF1 base) eCN eNA1 := fun o idx q h => ga2_all (P := pNA base) (wna base) h
theorem wki_0 : ∀ x ∈ eki_0, pKI 0 x := fun _ h => absurd h List.not_mem_nil
theorem wki_1 : ∀ x ∈ eki_1, pKI 1 x := fun _ h => absurd h List.not_mem_nil
theorem wki_2 : ∀ x ∈ eki_2, pKI 2 x := fun _ h => absurd h List.not_mem_nil
theorem wki_3 : ∀ x ∈ eki_3, pKI 3 x := fun _ h => absurd h List.not_mem_nil
theorem wki_4 : ∀ x ∈ eki_4, pKI 4 x := fun _ h => absurd h List.not_mem_nil
theorem wki_5 : ∀ x ∈ eki_5, pKI 5 x := fun _ h => absurd h List.not_mem_nil
theorem wki_6 : ∀ x ∈ eki_6, pKI 6 x := fun _ h => absurd h List.not_mem_nil
theorem wki_7 : ∀ x ∈ eki_7, pKI 7 x := fun _ h => absurd h List.not_mem_nil
theorem wki_8 : ∀ x ∈ eki_8, pKI 8 x := fun _ h => absurd h List.not_mem_nil
theorem wki_9 : ∀ x ∈ eki_9, pKI 9 x := fun _ h => absurd h List.not_mem_nil
theorem wki_10 : ∀ x ∈ eki_10, pKI 10 x := fun _ h => absurd h List.not_mem_nil
theorem wki_11 : ∀ x ∈ eki_11, pKI 11 x := fun _ h => absurd h List.not_mem_nil
theorem wki_12 : ∀ x ∈ eki_12, pKI 12 x := fun _ h => absurd h List.not_mem_nil
theorem wki_13 : ∀ x ∈ eki_13, pKI 13 x := fun _ h => absurd h List.not_mem_nil
theorem wki_14 : ∀ x ∈ eki_14, pKI 14 x := fun _ h => absurd h List.not_mem_nil
theorem wki_15 : ∀ x ∈ eki_15, pKI 15 x := fun _ h => absurd h List.not_mem_nil
theorem wki_16 : ∀ x ∈ eki_16, pKI 16 x := fun _ h => absurd h List.not_mem_nil
theorem wki : eAll pKI 0 eki := ⟨wki_0, wki_1, wki_2, wki_3, wki_4, wki_5, wki_6, wki_7, wki_8, wki_9, wki_10, wki_11, wki_12, wki_13, wki_14, wki_15, wki_16, trivial⟩
theorem w_KI : eKOK Tb1 eCN eKI1 := fun o idx n h => ga2_all (P := pKI) wki h
def pKLx (o : Nat) (x : Nat × Nat) : Prop := ∃ v : Int64, Cond.constantLong (eCN o) x.1 v ∈ Tb1 ∧ (¬ x.2 = 0 → v = Int64.ofNat x.2)
theorem wkl_0 : ∀ x ∈ ekl_0, pKLx 0 x := fun _ h => absurd h List.not_mem_nil
theorem wkl_1 : ∀ x ∈ ekl_1, pKLx 1 x := fun _ h => absurd h List.not_mem_nil
theorem wkl_2 : ∀ x ∈ ekl_2, pKLx 2 x := fun _ h => absurd h List.not_mem_nil
theorem wkl_3 : ∀ x ∈ ekl_3, pKLx 3 x := fun _ h => absurd h List.not_mem_nil
theorem wkl_4 : ∀ x ∈ ekl_4, pKLx 4 x := fun _ h => absurd h List.not_mem_nil
theorem wkl_5 : ∀ x ∈ ekl_5, pKLx 5 x := fun _ h => absurd h List.not_mem_nil
theorem wkl_6 : ∀ x ∈ ekl_6, pKLx 6 x := fun _ h => absurd h List.not_mem_nil
theorem wkl_7 : ∀ x ∈ ekl_7, pKLx 7 x := fun _ h => absurd h List.not_mem_nil
theorem wkl_8 : ∀ x ∈ ekl_8, pKLx 8 x := fun _ h => absurd h List.not_mem_nil
theorem wkl_9 : ∀ x ∈ ekl_9, pKLx 9 x := fun _ h => absurd h List.not_mem_nil
theorem wkl_10 : ∀ x ∈ ekl_10, pKLx 10 x := fun _ h => absurd h List.not_mem_nil
theorem wkl_11 : ∀ x ∈ ekl_11, pKLx 11 x := fun _ h => absurd h List.not_mem_nil
theorem wkl_12_114 : pKLx 12 (114, 448546567013) := ⟨448546567013, tbT 1378 (by decide +kernel) rfl, fun _ => rfl⟩
theorem wkl_12_116 : pKLx 12 (116, 478745093490) := ⟨478745093490, tbT 1379 (by decide +kernel) rfl, fun _ => rfl⟩
theorem wkl_12_118 : pKLx 12 (118, 1919905645) := ⟨1919905645, tbT 1380 (by decide +kernel) rfl, fun _ => rfl⟩
theorem wkl_12_120 : pKLx 12 (120, 1685024626) := ⟨1685024626, tbT 1381 (by decide +kernel) rfl, fun _ => rfl⟩
theorem wkl_12_122 : pKLx 12 (122, 1919902309) := ⟨1919902309, tbT 1382 (by decide +kernel) rfl, fun _ => rfl⟩
theorem wkl_12_124 : pKLx 12 (124, 24948) := ⟨24948, tbT 1383 (by decide +kernel) rfl, fun _ => rfl⟩
theorem wkl_12_126 : pKLx 12 (126, 465557354085) := ⟨465557354085, tbT 1384 (by decide +kernel) rfl, fun _ => rfl⟩
theorem wkl_12_128 : pKLx 12 (128, 1751476594) := ⟨1751476594, tbT 1385 (by decide +kernel) rfl, fun _ => rfl⟩
theorem wkl_12_130 : pKLx 12 (130, 465625113971) := ⟨465625113971, tbT 1386 (by decide +kernel) rfl, fun _ => rfl⟩
theorem wkl_12_132 : pKLx 12 (132, 1735353715) := ⟨1735353715, tbT 1387 (by decide +kernel) rfl, fun _ => rfl⟩
theorem wkl_12_134 : pKLx 12 (134, 495622843507) := ⟨495622843507, tbT 1388 (by decide +kernel) rfl, fun _ => rfl⟩
theorem wkl_12_136 : pKLx 12 (136, 1818588275) := ⟨1818588275, tbT 1389 (by decide +kernel) rfl, fun _ => rfl⟩
theorem wkl_12_138 : pKLx 12 (138, 1650553459) := ⟨1650553459, tbT 1390 (by decide +kernel) rfl, fun _ => rfl⟩
theorem wkl_12_140 : pKLx 12 (140, 1684628851) := ⟨1684628851, tbT 1391 (by decide +kernel) rfl, fun _ => rfl⟩
theorem wkl_12_142 : pKLx 12 (142, 512869821555) := ⟨512869821555, tbT 1392 (by decide +kernel) rfl, fun _ => rfl⟩
theorem wkl_12_144 : pKLx 12 (144, 495673767027) := ⟨495673767027, tbT 1393 (by decide +kernel) rfl, fun _ => rfl⟩
theorem wkl_12_146 : pKLx 12 (146, 478627065459) := ⟨478627065459, tbT 1394 (by decide +kernel) rfl, fun _ => rfl⟩
theorem wkl_12_148 : pKLx 12 (148, 422877228659) := ⟨422877228659, tbT 1395 (by decide +kernel) rfl, fun _ => rfl⟩
theorem wkl_12_150 : pKLx 12 (150, 120299592184933) := ⟨120299592184933, tbT 1396 (by decide +kernel) rfl, fun _ => rfl⟩
theorem wkl_12_152 : pKLx 12 (152, 28530) := ⟨28530, tbT 1397 (by decide +kernel) rfl, fun _ => rfl⟩
theorem wkl_12_154 : pKLx 12 (154, 6385252) := ⟨6385252, tbT 1398 (by decide +kernel) rfl, fun _ => rfl⟩
theorem wkl_12_156 : pKLx 12 (156, 7237492) := ⟨7237492, tbT 1399 (by decide +kernel) rfl, fun _ => rfl⟩
theorem wkl_12_158 : pKLx 12 (158, 422877228660) := ⟨422877228660, tbT 1400 (by decide +kernel) rfl, fun _ => rfl⟩
theorem wkl_12_160 : pKLx 12 (160, 1718773093) := ⟨1718773093, tbT 1401 (by decide +kernel) rfl, fun _ => rfl⟩
theorem wkl_12_162 : pKLx 12 (162, 28518) := ⟨28518, tbT 1402 (by decide +kernel) rfl, fun _ => rfl⟩
theorem wkl_12_164 : pKLx 12 (164, 26990) := ⟨26990, tbT 1403 (by decide +kernel) rfl, fun _ => rfl⟩
theorem wkl_12_166 : pKLx 12 (166, 123580963646565) := ⟨123580963646565, tbT 1404 (by decide +kernel) rfl, fun _ => rfl⟩
theorem wkl_12_168 : pKLx 12 (168, 431366304371) := ⟨431366304371, tbT 1405 (by decide +kernel) rfl, fun _ => rfl⟩
theorem wkl_12_170 : pKLx 12 (170, 512970880104) := ⟨512970880104, tbT 1406 (by decide +kernel) rfl, fun _ => rfl⟩
theorem wkl_12_172 : pKLx 12 (172, 121450625394034) := ⟨121450625394034, tbT 1407 (by decide +kernel) rfl, fun _ => rfl⟩
theorem wkl_12 : ∀ x ∈ ekl_12, pKLx 12 x := List.forall_mem_cons.mpr ⟨wkl_12_114, List.forall_mem_cons.mpr ⟨wkl_12_116, List.forall_mem_cons.mpr ⟨wkl_12_118, List.forall_mem_cons.mpr ⟨wkl_12_120, List.forall_mem_cons.mpr ⟨wkl_12_122, List.forall_mem_cons.mpr ⟨wkl_12_124, List.forall_mem_cons.mpr ⟨wkl_12_126, List.forall_mem_cons.mpr ⟨wkl_12_128, List.forall_mem_cons.mpr ⟨wkl_12_130, List.forall_mem_cons.mpr ⟨wkl_12_132, List.forall_mem_cons.mpr ⟨wkl_12_134, List.forall_mem_cons.mpr ⟨wkl_12_136, List.forall_mem_cons.mpr ⟨wkl_12_138, List.forall_mem_cons.mpr ⟨wkl_12_140, List.forall_mem_cons.mpr ⟨wkl_12_142, List.forall_mem_cons.mpr ⟨wkl_12_144, List.forall_mem_cons.mpr ⟨wkl_12_146, List.forall_mem_cons.mpr ⟨wkl_12_148, List.forall_mem_cons.mpr ⟨wkl_12_150, List.forall_mem_cons.mpr ⟨wkl_12_152, List.forall_mem_cons.mpr ⟨wkl_12_154, List.forall_mem_cons.mpr ⟨wkl_12_156, List.forall_mem_cons.mpr ⟨wkl_12_158, List.forall_mem_cons.mpr ⟨wkl_12_160, List.forall_mem_cons.mpr ⟨wkl_12_162, List.forall_mem_cons.mpr ⟨wkl_12_164, List.forall_mem_cons.mpr ⟨wkl_12_166, List.forall_mem_cons.mpr ⟨wkl_12_168, List.forall_mem_cons.mpr ⟨wkl_12_170, List.forall_mem_cons.mpr ⟨wkl_12_172, fun _ h => absurd h List.not_mem_nil⟩⟩⟩⟩⟩⟩⟩⟩⟩⟩⟩⟩⟩⟩⟩⟩⟩⟩⟩⟩⟩⟩⟩⟩⟩⟩⟩⟩⟩⟩
theorem wkl_13 : ∀ x ∈ ekl_13, pKLx 13 x := fun _ h => absurd h List.not_mem_nil
theorem wkl_14 : ∀ x ∈ ekl_14, pKLx 14 x := fun _ h => absurd h List.not_mem_nil
theorem wkl_15 : ∀ x ∈ ekl_15, pKLx 15 x := fun _ h => absurd h List.not_mem_nil
theorem wkl_16 : ∀ x ∈ ekl_16, pKLx 16 x := fun _ h => absurd h List.not_mem_nil
theorem wkl : eAll pKLx 0 ekl := ⟨wkl_0, wkl_1, wkl_2, wkl_3, wkl_4, wkl_5, wkl_6, wkl_7, wkl_8, wkl_9, wkl_10, wkl_11, wkl_12, wkl_13, wkl_14, wkl_15, wkl_16, trivial⟩
theorem w_KL : eJOKx Tb1 eCN eKL1 := fun o idx n h => ga2_all (P := pKLx) wkl h
theorem w_AC : eACk Tb1 := ⟨tbT 192 (by decide +kernel) rfl, tbT 140 (by decide +kernel) rfl, tbT 1574 (by decide +kernel) rfl, tbT 141 (by decide +kernel) rfl⟩
