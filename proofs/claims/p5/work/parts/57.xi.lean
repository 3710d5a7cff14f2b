/-! THE CLASS'S BOOK, from where its LINES are read on: checked -/
noncomputable section
def gc_116_r : aCon := ([.inr (.inl 11), .inl (.ofNat 0, .ofNat 1), .inl (.ofNat 0, .ofNat 1)], [], [(some (.inl (.negSucc 2147483647, .ofNat 2147483647)), [])], [(0, 5, 10), (1, 5, 10), (5, 1, 3), (17, 0, 12), (18, 0, 6), (19, 0, 6), (20, 0, 6), (21, 0, 6)])
end
theorem gkr_116 : acckm gFL gCL gMT gXT gKI gKL gST (gCA [(1, [gc_1_0]), (11, [gc_11_0])]) gJ1 100000 gm_116 (gXT 116) gc_116_r 35 (match ej ga_116 35 with
  | some cd => cd
  | none => []) = true := by decide +kernel
section ZBR
variable {E : zE}
theorem c_116r (B : zB E) (A : zA E gJ1) : ∀ (asx : List Value) (ws : va_W), wOk (zso E) (zad E) E.2.2.2.2.2.2.1 gST ws → jOk (zso E) gJ1 ws → vsOk (zso E) (zad E) gc_116_r.1 asx → gG E.1 E.2.1 E.2.2.1 E.2.2.2.1 E.2.2.2.2.1 E.2.2.2.2.2.1 E.2.2.2.2.2.2.1 E.2.2.2.2.2.2.2.1 E.2.2.2.2.2.2.2.2.1 E.2.2.2.2.2.2.2.2.2.1 E.2.2.2.2.2.2.2.2.2.2.1 gm_116 35 (lv_args 0 asx) [] ws 0 0 (cPost E.2.2.2.2.2.2.1 (zso E) (zad E) gST gJ1 gc_116_r asx ws) := c_mid (XT := gXT) (q := (gm_116, 3)) (z_val B A (zP_cons rfl (zF_cons (zc_1_0 B A) zF_nil) (zP_cons rfl (zF_cons (zc_11_0 B A) zF_nil) zP_nil))) rfl (by decide) (by decide) (fun t ht => List.all_eq_true.mp (show elens gm_116 = true from by decide +kernel) t ht) gkr_116
end ZBR
