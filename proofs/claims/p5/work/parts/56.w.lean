section Z12
variable {E : zE} {w : va_W} {σ : vS} {K : vK}
theorem len_fc {σ2 : vS} {r : List vV} (h : σ2 12 2 = 0) : ∀ f ∈ [(0, (0 : Int), (0 : Int), (none : Option Int))], vFc zuq [(0, 2)] (.inr (.inl 12) :: r) σ σ2 f := by
  intro f hf
  have e := List.mem_singleton.mp hf
  subst e
  intro af t haf ht hu
  have haf : some (0, 2) = some af := haf
  cases haf
  have ht : some (Sum.inr (Sum.inl 12) : vV) = some (.inr (.inl t)) := ht
  cases ht
  have h : σ2 12 ((2 : Nat) : Int) = 0 := h
  exact ⟨by rw [h]; exact Int.le_refl _, by rw [h]; exact Int.le_refl _, fun d' hd => (nomatch hd)⟩
theorem len_hf {c : aCon} {fs : List aF} (ha : c.1 = .inr (.inl 12) :: fs) (ho : c.2.1 = [(0, 2)]) : ∀ al ∈ c.2.2.1, ∀ f ∈ al.2, ∀ af, c.2.1.reverse[f.1]? = some af → ∀ vs, vFits c.1 vs → ∀ t : Nat, vs[af.1]? = some (.inr (.inl t)) → zuq t = true ∧ ∃ ob w, gST t = some (.inl ob) ∧ ob.2[af.2]? = some (.inl w) := by
  intro al hal f hf af haf vs hv t ht
  rw [ho] at haf
  have e := List.mem_singleton.mp (show af ∈ [(0, 2)] from List.mem_of_getElem? haf)
  subst e
  rw [ha] at hv
  obtain ⟨v, r, rfl, h1, h2⟩ := fits_cons hv
  rw [fit_r h1] at ht
  have ht : some (Sum.inr (Sum.inl 12) : vV) = some (.inr (.inl t)) := ht
  cases ht
  exact ⟨rfl, _, _, rfl, rfl⟩
theorem zw_283 (B : zB E) (I : zin E) : zH E gJ1 (gm_283, 5) gc_283_w := by
  refine z_holds2 B I (len_hf rfl rfl) (fun w vs σ hv hX hb => ?_)
  have hv : vFits [.inr (.inl 12)] vs := hv
  rw [fits1 hv]
  exact z_wal0 B (fun z σ2 hz hf hl => ⟨vX_fr hX (hf 52 (by decide)) (hf 74 (by decide)), _, List.mem_cons_self, ⟨hz.1, hz.2⟩, len_fc hl⟩)
theorem zw_194 (B : zB E) (A : zA E gJ1) : zH E gJ1 (gm_194, 4) gc_194_w := by
  refine z_holds2 B A.2.1 (len_hf rfl rfl) (fun w vs σ hv hX hb => ?_)
  have hv : vFits [.inr (.inl 12), .inl (.negSucc 2147483647, .ofNat 2147483647)] vs := hv
  obtain ⟨q, rfl, h1⟩ := fits2 hv
  exact z_cor0 B (zc_281_0 B A) (zc_177_0 B A) (zc_198_0 B A) (zc_264_0 B A) h1 (fun z σ2 hz hX2 hl => ⟨hX2, _, List.mem_cons_self, ⟨hz.1, hz.2⟩, len_fc hl⟩) hX
theorem zw_268 (B : zB E) (A : zA E gJ1) : zH E gJ1 (gm_268, 3) gc_268_w := by
  refine z_holds2 B A.2.1 (len_hf rfl rfl) (fun w vs σ hv hX hb => ?_)
  have hv : vFits [.inr (.inl 12)] vs := hv
  rw [fits1 hv]
  exact z_sen0 B (zc_271a B A.2.1) (zc_223_0 B A) (fun z σ2 hz hX2 hl => ⟨hX2, _, List.mem_cons_self, ⟨hz.1, hz.2⟩, len_fc hl⟩) hX
theorem zw_184 (B : zB E) (A2 : zA E gjl) : zH E gJ1 (gm_184, 7) gc_184_w := by
  refine z_holds2 B A2.2.1 (len_hf rfl rfl) (fun w vs σ hv hX hb => ?_)
  obtain ⟨q, rfl, h1⟩ := fits2 (a := 0) (b := 1) (t := 12) hv
  refine z_boo B A2 (by omega) (fun z σ2 hz hX2 => absurd h1 hz.2) (fun al hal ret σ2 hr hX2 hl => ?_) hX
  have e := List.mem_singleton.mp (show al ∈ [_] from hal)
  subst e
  exact ⟨hX2, _, List.mem_cons_self, hr, len_fc hl⟩
theorem gkw_278 : acck gFL gCL gMT gXT gKI gKL gST (gCA [(237, [gc_237_0]), (271, [gc_271_0])]) gJ1 100000 gm_278 (gXT 278) gc_278_w = true := by decide +kernel
theorem zw_278 (B : zB E) (A : zA E gJ1) : zH E gJ1 (gm_278, 2) gc_278_w := z_chk B A (zP_cons rfl (zF_cons (zc_237_0 B A) zF_nil) (zP_cons rfl (zF_cons (zc_271a B A.2.1) zF_nil) zP_nil)) (by decide) (by decide +kernel) gkw_278
end Z12
