/-! CONTRACTS WITH FACTS; EXACT WALK: skip -/
noncomputable section
def md271 : aMd := gc_271_0.2.2.2
def zin (E : zE) : Prop := ∀ o o2 a : Nat, (zad E)[o]? = some a → (zad E)[o2]? = some a → o = o2
end
section Z8
variable {E : zE} {J : List aJ} {md : aMd} {w : va_W} {σ : vS} {K : vK}
theorem vsR_inv {so ad : List Nat} : ∀ {vs : List vV} {xs : List Value} {k : Nat} {x : Value}, vsR so ad vs xs → xs[k]? = some x → ∃ v, vs[k]? = some v ∧ vvR so ad v x
  | [], [], _, _, _, h => by simp at h
  | v0 :: vs, x0 :: xs, 0, x, h, hk => by
    rw [List.getElem?_cons_zero] at hk
    cases hk
    exact ⟨v0, List.getElem?_cons_zero, h.1⟩
  | v0 :: vs, x0 :: xs, k + 1, x, h, hk => by
    rw [List.getElem?_cons_succ] at hk
    rw [List.getElem?_cons_succ]
    exact vsR_inv h.2 hk
  | [], _ :: _, _, _, h, _ => absurd h id
  | _ :: _, [], _, _, h, _ => absurd h id
theorem z_holds2 (B : zB E) (I : zin E) {q : eM × Nat} {c : aCon} (hfc : ∀ al ∈ c.2.2.1, ∀ f ∈ al.2, ∀ af, c.2.1.reverse[f.1]? = some af → ∀ vs, vFits c.1 vs → ∀ t : Nat, vs[af.1]? = some (.inr (.inl t)) → zuq t = true ∧ ∃ ob w, gST t = some (.inl ob) ∧ ob.2[af.2]? = some (.inl w)) (hc : ∀ (w : va_W) (vs : List vV) (σ : vS), vFits c.1 vs → vX σ → vBd (zso E) gST zuq σ → zG E J c.2.2.2 w q.1 0 (vargs vs 0) σ (fun ret σ2 => vX σ2 ∧ ∃ al ∈ c.2.2.1, vFr al.1 ret ∧ ∀ f ∈ al.2, vFc zuq c.2.1 vs σ σ2 f)) : zH E J q c := by
  have hU := B.2.2.2.2.2.2.1
  have hex : (∃ o : Nat, (zso E)[o]? = some 52) ∧ ∃ o : Nat, (zso E)[o]? = some 74 := ⟨B.2.2.2.2.2.2.2 52 rfl, B.2.2.2.2.2.2.2 74 rfl⟩
  intro asx ws hw hj hv
  obtain ⟨vs, v1, v2⟩ := vsOk_v hv
  obtain ⟨σ, s1, -⟩ := sg_ex hU ws (fun _ _ => 0)
  have hW : vW _ (zso E) (zad E) gST J c.2.2.2 ws zuq ws σ := ⟨⟨hw.1, hw.2.1, fun o t q hq ht => (hw.2.2 o t q hq ht).1⟩, hj, fRel_refl, s1⟩
  refine hc ws vs σ v1 (of_w z_vXh ⟨rfl, rfl⟩ hex hW hw) (vBd_of hW) _ _ [] ws hW (vargs_ok 0 v2) trivial ?_
  intro ret σ2 ws2 rv ⟨x1, al, x2, x3, x4⟩ hW2 hrt
  refine ⟨w_of z_vXh ⟨rfl, rfl⟩ hW2 x1, hW2.2.1, hW2.2.2.1, al, x2, ?_, fun f hf af a o z0 o1 o2 o3 o4 => ?_⟩
  · cases hal : al.1 with
    | none =>
      rw [hal] at x3
      cases ret with
      | none =>
        cases rv with
        | none => trivial
        | some x => exact absurd hrt id
      | some v => exact absurd x3 id
    | some f =>
      rw [hal] at x3
      cases ret with
      | none => exact absurd x3 id
      | some v =>
        cases rv with
        | none => exact absurd hrt id
        | some x => exact v_vOk (show vFit f v from x3) hrt
  · obtain ⟨v, y1, y2⟩ := vsR_inv v2 o2
    rcases v with n | t | m
    · obtain ⟨z, y3, -⟩ := y2
      cases y3
    · obtain ⟨o', a', y3, y4, y5⟩ := y2
      have y5 : a = a' := by injection y5
      subst y5
      have eo := I _ _ _ o3 y4
      subst eo
      obtain ⟨hu, ob, w0, b1, b2⟩ := hfc al x2 f hf af o1 vs v1 t y1
      obtain ⟨r1, r2, r3⟩ := x4 f hf af t o1 y1 hu
      obtain ⟨a0, e0, g1, g2, g3⟩ := w0_at hW2.1 y3
      unfold eOk at g3
      rw [b1] at g3
      obtain ⟨fs, rfl, l1, l2⟩ := g3
      have hlt : af.2 < fs.length := by rw [l1]; exact (List.getElem?_eq_some_iff.mp b2).1
      have hx := List.getElem?_eq_getElem hlt
      obtain ⟨z1, hz1, -, -⟩ := l2 _ _ _ b2 hx
      have hgv : gcv ws2 o af.2 = some (.int z1) := by rw [gcv_at g1, ← hz1]; exact hx
      have e1 := hW2.2.2.2 o t _ z1 y3 hu hgv
      have e0 := hW.2.2.2 o t _ z0 y3 hu o4
      exact ⟨z1, hgv, by rw [e1]; exact r1, by rw [e1]; exact r2, fun d hd => by rw [e1, e0]; exact r3 d hd⟩
    · obtain ⟨z, y3⟩ := y2
      cases y3
theorem sk_fc {σ2 : vS} {lo hi d lo2 hi2 : Int} (h1 : lo ≤ σ2 12 4 ∧ σ2 12 4 ≤ hi) (h2 : σ 12 4 + d ≤ σ2 12 4) (h3 : lo2 ≤ σ2 12 11 ∧ σ2 12 11 ≤ hi2) : ∀ f ∈ [(1, lo, hi, some d), (0, lo2, hi2, (none : Option Int))], vFc zuq [(0, 4), (0, 11)] [.inr (.inl 12)] σ σ2 f := by
  intro f hf
  rcases List.mem_cons.mp hf with rfl | hf
  · intro af t haf ht hu
    have haf : some (0, 4) = some af := haf
    cases haf
    have ht : some (Sum.inr (Sum.inl 12) : vV) = some (.inr (.inl t)) := ht
    cases ht
    exact ⟨h1.1, h1.2, fun d' hd => by cases hd; exact h2⟩
  · have e := List.mem_singleton.mp hf
    subst e
    intro af t haf ht hu
    have haf : some (0, 11) = some af := haf
    cases haf
    have ht : some (Sum.inr (Sum.inl 12) : vV) = some (.inr (.inl t)) := ht
    cases ht
    exact ⟨h3.1, h3.2, fun d' hd => (nomatch hd)⟩
theorem z_sk3a (B : zB E) {σ0 : vS} {p0 : Int} {sm al : Int} {σ : vS} (hN : ∀ (al : Int) (σ2 : vS), σ 12 4 < σ2 12 4 → zfr [12] σ0 σ2 → (p0 + 1 ≤ σ2 12 4 ∨ (p0 ≤ σ2 12 4 ∧ σ2 12 4 < σ2 12 3 ∧ ((97 ≤ vand (σ2 51 (σ2 12 4)) 255 ∧ vand (σ2 51 (σ2 12 4)) 255 ≤ 122) ∨ (48 ≤ vand (σ2 51 (σ2 12 4)) 255 ∧ vand (σ2 51 (σ2 12 4)) 255 ≤ 57)))) → (0 ≤ σ2 12 13 ∧ σ2 12 13 ≤ σ2 12 4) → (σ2 12 13 = 0 → σ2 12 14 = 0) → (σ2 12 13 = 1 → 0 ≤ σ2 12 14 ∧ σ2 12 14 ≤ 74) → (0 ≤ sm ∧ sm ≤ 1) → (0 ≤ al ∧ al ≤ 1) → zG E gJ1 md271 w gm_271 181 [(0, .inr (.inl 12)), (2, .inl sm), (3, .inl al)] σ2 K) (hf : zfr [12] σ0 σ) (hp : p0 ≤ σ 12 4 ∧ σ 12 4 < σ 12 3) (hc : (97 ≤ vand (σ 51 (σ 12 4)) 255 ∧ vand (σ 51 (σ 12 4)) 255 ≤ 122) ∨ (48 ≤ vand (σ 51 (σ 12 4)) 255 ∧ vand (σ 51 (σ 12 4)) 255 ≤ 57)) (h1 : 0 ≤ σ 12 13 ∧ σ 12 13 ≤ σ 12 4) (h2 : σ 12 13 = 0 → σ 12 14 = 0) (h3 : σ 12 13 = 1 → 0 ≤ σ 12 14 ∧ σ 12 14 ≤ 74) (h4 : 0 ≤ sm ∧ sm ≤ 1) (h5 : 0 ≤ al ∧ al ≤ 1) : zG E gJ1 md271 w gm_271 201 [(0, .inr (.inl 12)), (2, .inl sm), (3, .inl al)] σ K := by
  refine zbd (fun hb => ?_)
  have g1 : 0 ≤ σ 12 4 ∧ σ 12 4 ≤ 940 := zf B hb (t := 12) (f := 4) (by decide +kernel)
  have g2 : 0 ≤ σ 12 3 ∧ σ 12 3 ≤ 940 := zf B hb (t := 12) (f := 3) (by decide +kernel)
  refine zgo B zS_nil [] [(0, [0]), (181, [0, 2, 3]), (201, [0, 2, 3])] (fun m => Nat.beq m.2.2.2.2.2.1 0) (by decide +kernel) ?_
  refine And.intro (fun (c1 : al = 0) => ?_) (fun (c2 : ¬ al = 0) => ?_)
  · have f3 : (-2147483648) ≤ σ 12 13 ∧ σ 12 13 ≤ 2147483647 := zf B hb (t := 12) (f := 13) (by decide +kernel)
    refine And.intro (fun (c4 : 7 ≤ (σ 12 13)) => ?_) (fun (c5 : (σ 12 13) < 7) => ?_)
    · refine And.intro (fun _ => ?_) (fun (q : (σ 12 13) < 2) => (by exfalso; omega))
      refine And.intro (show -2147483648 ≤ ((σ 12 13) + 1) ∧ ((σ 12 13) + 1) ≤ 2147483647 from by omega) ?_
      refine And.intro (show Int.negSucc 2147483647 ≤ ((σ 12 13) + 1) ∧ ((σ 12 13) + 1) ≤ 2147483647 from rgm (by omega)) ?_
      have f6 : 0 ≤ σ 12 4 ∧ σ 12 4 ≤ 940 := zf B hb (t := 12) (f := 4) (by decide +kernel)
      refine And.intro (show -2147483648 ≤ ((σ 12 4) + 1) ∧ ((σ 12 4) + 1) ≤ 2147483647 from by omega) ?_
      refine And.intro (show 0 ≤ ((σ 12 4) + 1) ∧ ((σ 12 4) + 1) ≤ 940 from by omega) ?_
      first
      | (exfalso; omega)
      | (show zG E gJ1 md271 w gm_271 181 [(0, .inr (.inl 12)), (2, .inl sm), (3, .inl 0)] (vup (vup σ 12 13 ((σ 12 13) + 1)) 12 4 ((σ 12 4) + 1)) K; exact hN _ _ (show σ 12 4 < (σ 12 4) + 1 from by omega) (zfr_up (zfr_up hf (by decide)) (by decide)) (Or.inl (show p0 + 1 ≤ (σ 12 4) + 1 from by omega)) (show 0 ≤ (σ 12 13) + 1 ∧ (σ 12 13) + 1 ≤ (σ 12 4) + 1 from by omega) (show (σ 12 13) + 1 = 0 → σ 12 14 = 0 from fun q => by omega) (show (σ 12 13) + 1 = 1 → 0 ≤ σ 12 14 ∧ σ 12 14 ≤ 74 from fun q => by omega) (by omega) (by omega))
    · have f7 : 0 ≤ σ 12 4 ∧ σ 12 4 ≤ 940 := zf B hb (t := 12) (f := 4) (by decide +kernel)
      have f8 : 0 ≤ σ 12 3 ∧ σ 12 3 ≤ 940 := zf B hb (t := 12) (f := 3) (by decide +kernel)
      refine And.intro (fun (c9 : (σ 12 3) ≤ (σ 12 4)) => ?_) (fun (c10 : (σ 12 4) < (σ 12 3)) => ?_)
      · refine And.intro (fun (c11 : 2 ≤ (σ 12 13)) => ?_) (fun (c12 : (σ 12 13) < 2) => ?_)
        · refine And.intro (show -2147483648 ≤ ((σ 12 13) + 1) ∧ ((σ 12 13) + 1) ≤ 2147483647 from by omega) ?_
          refine And.intro (show Int.negSucc 2147483647 ≤ ((σ 12 13) + 1) ∧ ((σ 12 13) + 1) ≤ 2147483647 from rgm (by omega)) ?_
          refine And.intro (show -2147483648 ≤ ((σ 12 4) + 1) ∧ ((σ 12 4) + 1) ≤ 2147483647 from by omega) ?_
          refine And.intro (show 0 ≤ ((σ 12 4) + 1) ∧ ((σ 12 4) + 1) ≤ 940 from by omega) ?_
          first
          | (exfalso; omega)
          | (show zG E gJ1 md271 w gm_271 181 [(0, .inr (.inl 12)), (2, .inl sm), (3, .inl 0)] (vup (vup σ 12 13 ((σ 12 13) + 1)) 12 4 ((σ 12 4) + 1)) K; exact hN _ _ (show σ 12 4 < (σ 12 4) + 1 from by omega) (zfr_up (zfr_up hf (by decide)) (by decide)) (Or.inl (show p0 + 1 ≤ (σ 12 4) + 1 from by omega)) (show 0 ≤ (σ 12 13) + 1 ∧ (σ 12 13) + 1 ≤ (σ 12 4) + 1 from by omega) (show (σ 12 13) + 1 = 0 → σ 12 14 = 0 from fun q => by omega) (show (σ 12 13) + 1 = 1 → 0 ≤ σ 12 14 ∧ σ 12 14 ≤ 74 from fun q => by omega) (by omega) (by omega))
        · have f13 : (-2147483648) ≤ σ 12 14 ∧ σ 12 14 ≤ 2147483647 := zf B hb (t := 12) (f := 14) (by decide +kernel)
          refine And.intro (show -2147483648 ≤ (10 * (σ 12 14)) ∧ (10 * (σ 12 14)) ≤ 2147483647 from by omega) ?_
          refine And.intro (fun _ => ?_) (fun (q : (σ 12 4) < (σ 12 3)) => (by exfalso; omega))
          refine And.intro (show -2147483648 ≤ ((10 * (σ 12 14)) + (-1)) ∧ ((10 * (σ 12 14)) + (-1)) ≤ 2147483647 from by omega) ?_
          refine And.intro (show -2147483648 ≤ (((10 * (σ 12 14)) + (-1)) - 48) ∧ (((10 * (σ 12 14)) + (-1)) - 48) ≤ 2147483647 from by omega) ?_
          refine And.intro (show Int.negSucc 2147483647 ≤ (((10 * (σ 12 14)) + (-1)) - 48) ∧ (((10 * (σ 12 14)) + (-1)) - 48) ≤ 2147483647 from rgm (by omega)) ?_
          refine And.intro (show -2147483648 ≤ ((σ 12 13) + 1) ∧ ((σ 12 13) + 1) ≤ 2147483647 from by omega) ?_
          refine And.intro (show Int.negSucc 2147483647 ≤ ((σ 12 13) + 1) ∧ ((σ 12 13) + 1) ≤ 2147483647 from rgm (by omega)) ?_
          refine And.intro (show -2147483648 ≤ ((σ 12 4) + 1) ∧ ((σ 12 4) + 1) ≤ 2147483647 from by omega) ?_
          refine And.intro (show 0 ≤ ((σ 12 4) + 1) ∧ ((σ 12 4) + 1) ≤ 940 from by omega) ?_
          first
          | (exfalso; omega)
          | (show zG E gJ1 md271 w gm_271 181 [(0, .inr (.inl 12)), (2, .inl sm), (3, .inl 0)] (vup (vup (vup σ 12 14 (((10 * (σ 12 14)) + (-1)) - 48)) 12 13 ((σ 12 13) + 1)) 12 4 ((σ 12 4) + 1)) K; exact hN _ _ (show σ 12 4 < (σ 12 4) + 1 from by omega) (zfr_up (zfr_up (zfr_up hf (by decide)) (by decide)) (by decide)) (Or.inl (show p0 + 1 ≤ (σ 12 4) + 1 from by omega)) (show 0 ≤ (σ 12 13) + 1 ∧ (σ 12 13) + 1 ≤ (σ 12 4) + 1 from by omega) (show (σ 12 13) + 1 = 0 → ((10 * (σ 12 14)) + (-1)) - 48 = 0 from fun q => by omega) (show (σ 12 13) + 1 = 1 → 0 ≤ ((10 * (σ 12 14)) + (-1)) - 48 ∧ ((10 * (σ 12 14)) + (-1)) - 48 ≤ 74 from fun q => by omega) (by omega) (by omega))
      · refine And.intro (show 0 ≤ (σ 12 4) ∧ (σ 12 4) < 940 from by omega) ?_
        refine And.intro (fun (c14 : 2 ≤ (σ 12 13)) => ?_) (fun (c15 : (σ 12 13) < 2) => ?_)
        · refine And.intro (show -2147483648 ≤ ((σ 12 13) + 1) ∧ ((σ 12 13) + 1) ≤ 2147483647 from by omega) ?_
          refine And.intro (show Int.negSucc 2147483647 ≤ ((σ 12 13) + 1) ∧ ((σ 12 13) + 1) ≤ 2147483647 from rgm (by omega)) ?_
          refine And.intro (show -2147483648 ≤ ((σ 12 4) + 1) ∧ ((σ 12 4) + 1) ≤ 2147483647 from by omega) ?_
          refine And.intro (show 0 ≤ ((σ 12 4) + 1) ∧ ((σ 12 4) + 1) ≤ 940 from by omega) ?_
          first
          | (exfalso; omega)
          | (show zG E gJ1 md271 w gm_271 181 [(0, .inr (.inl 12)), (2, .inl sm), (3, .inl 0)] (vup (vup σ 12 13 ((σ 12 13) + 1)) 12 4 ((σ 12 4) + 1)) K; exact hN _ _ (show σ 12 4 < (σ 12 4) + 1 from by omega) (zfr_up (zfr_up hf (by decide)) (by decide)) (Or.inl (show p0 + 1 ≤ (σ 12 4) + 1 from by omega)) (show 0 ≤ (σ 12 13) + 1 ∧ (σ 12 13) + 1 ≤ (σ 12 4) + 1 from by omega) (show (σ 12 13) + 1 = 0 → σ 12 14 = 0 from fun q => by omega) (show (σ 12 13) + 1 = 1 → 0 ≤ σ 12 14 ∧ σ 12 14 ≤ 74 from fun q => by omega) (by omega) (by omega))
        · have f16 : (-2147483648) ≤ σ 12 14 ∧ σ 12 14 ≤ 2147483647 := zf B hb (t := 12) (f := 14) (by decide +kernel)
          refine And.intro (show -2147483648 ≤ (10 * (σ 12 14)) ∧ (10 * (σ 12 14)) ≤ 2147483647 from by omega) ?_
          refine And.intro (fun (q : (σ 12 3) ≤ (σ 12 4)) => (by exfalso; omega)) (fun _ => ?_)
          refine And.intro (show 0 ≤ (σ 12 4) ∧ (σ 12 4) < 940 from by omega) ?_
          refine And.intro (show -2147483648 ≤ ((10 * (σ 12 14)) + (vand (σ 51 (σ 12 4)) 255)) ∧ ((10 * (σ 12 14)) + (vand (σ 51 (σ 12 4)) 255)) ≤ 2147483647 from by omega) ?_
          refine And.intro (show -2147483648 ≤ (((10 * (σ 12 14)) + (vand (σ 51 (σ 12 4)) 255)) - 48) ∧ (((10 * (σ 12 14)) + (vand (σ 51 (σ 12 4)) 255)) - 48) ≤ 2147483647 from by omega) ?_
          refine And.intro (show Int.negSucc 2147483647 ≤ (((10 * (σ 12 14)) + (vand (σ 51 (σ 12 4)) 255)) - 48) ∧ (((10 * (σ 12 14)) + (vand (σ 51 (σ 12 4)) 255)) - 48) ≤ 2147483647 from rgm (by omega)) ?_
          refine And.intro (show -2147483648 ≤ ((σ 12 13) + 1) ∧ ((σ 12 13) + 1) ≤ 2147483647 from by omega) ?_
          refine And.intro (show Int.negSucc 2147483647 ≤ ((σ 12 13) + 1) ∧ ((σ 12 13) + 1) ≤ 2147483647 from rgm (by omega)) ?_
          refine And.intro (show -2147483648 ≤ ((σ 12 4) + 1) ∧ ((σ 12 4) + 1) ≤ 2147483647 from by omega) ?_
          refine And.intro (show 0 ≤ ((σ 12 4) + 1) ∧ ((σ 12 4) + 1) ≤ 940 from by omega) ?_
          first
          | (exfalso; omega)
          | (show zG E gJ1 md271 w gm_271 181 [(0, .inr (.inl 12)), (2, .inl sm), (3, .inl 0)] (vup (vup (vup σ 12 14 (((10 * (σ 12 14)) + (vand (σ 51 (σ 12 4)) 255)) - 48)) 12 13 ((σ 12 13) + 1)) 12 4 ((σ 12 4) + 1)) K; exact hN _ _ (show σ 12 4 < (σ 12 4) + 1 from by omega) (zfr_up (zfr_up (zfr_up hf (by decide)) (by decide)) (by decide)) (Or.inl (show p0 + 1 ≤ (σ 12 4) + 1 from by omega)) (show 0 ≤ (σ 12 13) + 1 ∧ (σ 12 13) + 1 ≤ (σ 12 4) + 1 from by omega) (show (σ 12 13) + 1 = 0 → ((10 * (σ 12 14)) + (vand (σ 51 (σ 12 4)) 255)) - 48 = 0 from fun q => by omega) (show (σ 12 13) + 1 = 1 → 0 ≤ ((10 * (σ 12 14)) + (vand (σ 51 (σ 12 4)) 255)) - 48 ∧ ((10 * (σ 12 14)) + (vand (σ 51 (σ 12 4)) 255)) - 48 ≤ 74 from fun q => by omega) (by omega) (by omega))
  · have f17 : 0 ≤ σ 12 4 ∧ σ 12 4 ≤ 940 := zf B hb (t := 12) (f := 4) (by decide +kernel)
    have f18 : 0 ≤ σ 12 3 ∧ σ 12 3 ≤ 940 := zf B hb (t := 12) (f := 3) (by decide +kernel)
    refine And.intro (fun (c19 : (σ 12 3) ≤ (σ 12 4)) => ?_) (fun (c20 : (σ 12 4) < (σ 12 3)) => ?_)
    · refine And.intro (fun _ => ?_) (fun (q : 97 ≤ (-1)) => absurd q (by decide))
      refine And.intro (show 0 ≤ 0 ∧ 0 ≤ 1 from by omega) ?_
      refine And.intro (fun (c21 : ¬ 0 = sm) => ?_) (fun (c22 : 0 = sm) => ?_)
      · have f23 : (-2147483648) ≤ σ 12 13 ∧ σ 12 13 ≤ 2147483647 := zf B hb (t := 12) (f := 13) (by decide +kernel)
        refine And.intro (fun (c24 : 7 ≤ (σ 12 13)) => ?_) (fun (c25 : (σ 12 13) < 7) => ?_)
        · refine And.intro (fun _ => ?_) (fun (q : (σ 12 13) < 2) => (by exfalso; omega))
          refine And.intro (show -2147483648 ≤ ((σ 12 13) + 1) ∧ ((σ 12 13) + 1) ≤ 2147483647 from by omega) ?_
          refine And.intro (show Int.negSucc 2147483647 ≤ ((σ 12 13) + 1) ∧ ((σ 12 13) + 1) ≤ 2147483647 from rgm (by omega)) ?_
          refine And.intro (show -2147483648 ≤ ((σ 12 4) + 1) ∧ ((σ 12 4) + 1) ≤ 2147483647 from by omega) ?_
          refine And.intro (show 0 ≤ ((σ 12 4) + 1) ∧ ((σ 12 4) + 1) ≤ 940 from by omega) ?_
          first
          | (exfalso; omega)
          | (show zG E gJ1 md271 w gm_271 181 [(0, .inr (.inl 12)), (2, .inl sm), (3, .inl 0)] (vup (vup σ 12 13 ((σ 12 13) + 1)) 12 4 ((σ 12 4) + 1)) K; exact hN _ _ (show σ 12 4 < (σ 12 4) + 1 from by omega) (zfr_up (zfr_up hf (by decide)) (by decide)) (Or.inl (show p0 + 1 ≤ (σ 12 4) + 1 from by omega)) (show 0 ≤ (σ 12 13) + 1 ∧ (σ 12 13) + 1 ≤ (σ 12 4) + 1 from by omega) (show (σ 12 13) + 1 = 0 → σ 12 14 = 0 from fun q => by omega) (show (σ 12 13) + 1 = 1 → 0 ≤ σ 12 14 ∧ σ 12 14 ≤ 74 from fun q => by omega) (by omega) (by omega))
        · refine And.intro (fun _ => ?_) (fun (q : (σ 12 4) < (σ 12 3)) => (by exfalso; omega))
          refine And.intro (fun (c26 : 2 ≤ (σ 12 13)) => ?_) (fun (c27 : (σ 12 13) < 2) => ?_)
          · refine And.intro (show -2147483648 ≤ ((σ 12 13) + 1) ∧ ((σ 12 13) + 1) ≤ 2147483647 from by omega) ?_
            refine And.intro (show Int.negSucc 2147483647 ≤ ((σ 12 13) + 1) ∧ ((σ 12 13) + 1) ≤ 2147483647 from rgm (by omega)) ?_
            refine And.intro (show -2147483648 ≤ ((σ 12 4) + 1) ∧ ((σ 12 4) + 1) ≤ 2147483647 from by omega) ?_
            refine And.intro (show 0 ≤ ((σ 12 4) + 1) ∧ ((σ 12 4) + 1) ≤ 940 from by omega) ?_
            first
            | (exfalso; omega)
            | (show zG E gJ1 md271 w gm_271 181 [(0, .inr (.inl 12)), (2, .inl sm), (3, .inl 0)] (vup (vup σ 12 13 ((σ 12 13) + 1)) 12 4 ((σ 12 4) + 1)) K; exact hN _ _ (show σ 12 4 < (σ 12 4) + 1 from by omega) (zfr_up (zfr_up hf (by decide)) (by decide)) (Or.inl (show p0 + 1 ≤ (σ 12 4) + 1 from by omega)) (show 0 ≤ (σ 12 13) + 1 ∧ (σ 12 13) + 1 ≤ (σ 12 4) + 1 from by omega) (show (σ 12 13) + 1 = 0 → σ 12 14 = 0 from fun q => by omega) (show (σ 12 13) + 1 = 1 → 0 ≤ σ 12 14 ∧ σ 12 14 ≤ 74 from fun q => by omega) (by omega) (by omega))
          · have f28 : (-2147483648) ≤ σ 12 14 ∧ σ 12 14 ≤ 2147483647 := zf B hb (t := 12) (f := 14) (by decide +kernel)
            refine And.intro (show -2147483648 ≤ (10 * (σ 12 14)) ∧ (10 * (σ 12 14)) ≤ 2147483647 from by omega) ?_
            refine And.intro (fun _ => ?_) (fun (q : (σ 12 4) < (σ 12 3)) => (by exfalso; omega))
            refine And.intro (show -2147483648 ≤ ((10 * (σ 12 14)) + (-1)) ∧ ((10 * (σ 12 14)) + (-1)) ≤ 2147483647 from by omega) ?_
            refine And.intro (show -2147483648 ≤ (((10 * (σ 12 14)) + (-1)) - 48) ∧ (((10 * (σ 12 14)) + (-1)) - 48) ≤ 2147483647 from by omega) ?_
            refine And.intro (show Int.negSucc 2147483647 ≤ (((10 * (σ 12 14)) + (-1)) - 48) ∧ (((10 * (σ 12 14)) + (-1)) - 48) ≤ 2147483647 from rgm (by omega)) ?_
            refine And.intro (show -2147483648 ≤ ((σ 12 13) + 1) ∧ ((σ 12 13) + 1) ≤ 2147483647 from by omega) ?_
            refine And.intro (show Int.negSucc 2147483647 ≤ ((σ 12 13) + 1) ∧ ((σ 12 13) + 1) ≤ 2147483647 from rgm (by omega)) ?_
            refine And.intro (show -2147483648 ≤ ((σ 12 4) + 1) ∧ ((σ 12 4) + 1) ≤ 2147483647 from by omega) ?_
            refine And.intro (show 0 ≤ ((σ 12 4) + 1) ∧ ((σ 12 4) + 1) ≤ 940 from by omega) ?_
            first
            | (exfalso; omega)
            | (show zG E gJ1 md271 w gm_271 181 [(0, .inr (.inl 12)), (2, .inl sm), (3, .inl 0)] (vup (vup (vup σ 12 14 (((10 * (σ 12 14)) + (-1)) - 48)) 12 13 ((σ 12 13) + 1)) 12 4 ((σ 12 4) + 1)) K; exact hN _ _ (show σ 12 4 < (σ 12 4) + 1 from by omega) (zfr_up (zfr_up (zfr_up hf (by decide)) (by decide)) (by decide)) (Or.inl (show p0 + 1 ≤ (σ 12 4) + 1 from by omega)) (show 0 ≤ (σ 12 13) + 1 ∧ (σ 12 13) + 1 ≤ (σ 12 4) + 1 from by omega) (show (σ 12 13) + 1 = 0 → ((10 * (σ 12 14)) + (-1)) - 48 = 0 from fun q => by omega) (show (σ 12 13) + 1 = 1 → 0 ≤ ((10 * (σ 12 14)) + (-1)) - 48 ∧ ((10 * (σ 12 14)) + (-1)) - 48 ≤ 74 from fun q => by omega) (by omega) (by omega))
      · have f29 : (-2147483648) ≤ σ 12 13 ∧ σ 12 13 ≤ 2147483647 := zf B hb (t := 12) (f := 13) (by decide +kernel)
        refine And.intro (fun (c30 : 7 ≤ (σ 12 13)) => ?_) (fun (c31 : (σ 12 13) < 7) => ?_)
        · refine And.intro (fun _ => ?_) (fun (q : (σ 12 13) < 2) => (by exfalso; omega))
          refine And.intro (show -2147483648 ≤ ((σ 12 13) + 1) ∧ ((σ 12 13) + 1) ≤ 2147483647 from by omega) ?_
          refine And.intro (show Int.negSucc 2147483647 ≤ ((σ 12 13) + 1) ∧ ((σ 12 13) + 1) ≤ 2147483647 from rgm (by omega)) ?_
          refine And.intro (show -2147483648 ≤ ((σ 12 4) + 1) ∧ ((σ 12 4) + 1) ≤ 2147483647 from by omega) ?_
          refine And.intro (show 0 ≤ ((σ 12 4) + 1) ∧ ((σ 12 4) + 1) ≤ 940 from by omega) ?_
          first
          | (exfalso; omega)
          | (show zG E gJ1 md271 w gm_271 181 [(0, .inr (.inl 12)), (2, .inl sm), (3, .inl 1)] (vup (vup σ 12 13 ((σ 12 13) + 1)) 12 4 ((σ 12 4) + 1)) K; exact hN _ _ (show σ 12 4 < (σ 12 4) + 1 from by omega) (zfr_up (zfr_up hf (by decide)) (by decide)) (Or.inl (show p0 + 1 ≤ (σ 12 4) + 1 from by omega)) (show 0 ≤ (σ 12 13) + 1 ∧ (σ 12 13) + 1 ≤ (σ 12 4) + 1 from by omega) (show (σ 12 13) + 1 = 0 → σ 12 14 = 0 from fun q => by omega) (show (σ 12 13) + 1 = 1 → 0 ≤ σ 12 14 ∧ σ 12 14 ≤ 74 from fun q => by omega) (by omega) (by omega))
        · refine And.intro (fun _ => ?_) (fun (q : (σ 12 4) < (σ 12 3)) => (by exfalso; omega))
          refine And.intro (fun (c32 : 2 ≤ (σ 12 13)) => ?_) (fun (c33 : (σ 12 13) < 2) => ?_)
          · refine And.intro (show -2147483648 ≤ ((σ 12 13) + 1) ∧ ((σ 12 13) + 1) ≤ 2147483647 from by omega) ?_
            refine And.intro (show Int.negSucc 2147483647 ≤ ((σ 12 13) + 1) ∧ ((σ 12 13) + 1) ≤ 2147483647 from rgm (by omega)) ?_
            refine And.intro (show -2147483648 ≤ ((σ 12 4) + 1) ∧ ((σ 12 4) + 1) ≤ 2147483647 from by omega) ?_
            refine And.intro (show 0 ≤ ((σ 12 4) + 1) ∧ ((σ 12 4) + 1) ≤ 940 from by omega) ?_
            first
            | (exfalso; omega)
            | (show zG E gJ1 md271 w gm_271 181 [(0, .inr (.inl 12)), (2, .inl sm), (3, .inl 1)] (vup (vup σ 12 13 ((σ 12 13) + 1)) 12 4 ((σ 12 4) + 1)) K; exact hN _ _ (show σ 12 4 < (σ 12 4) + 1 from by omega) (zfr_up (zfr_up hf (by decide)) (by decide)) (Or.inl (show p0 + 1 ≤ (σ 12 4) + 1 from by omega)) (show 0 ≤ (σ 12 13) + 1 ∧ (σ 12 13) + 1 ≤ (σ 12 4) + 1 from by omega) (show (σ 12 13) + 1 = 0 → σ 12 14 = 0 from fun q => by omega) (show (σ 12 13) + 1 = 1 → 0 ≤ σ 12 14 ∧ σ 12 14 ≤ 74 from fun q => by omega) (by omega) (by omega))
          · have f34 : (-2147483648) ≤ σ 12 14 ∧ σ 12 14 ≤ 2147483647 := zf B hb (t := 12) (f := 14) (by decide +kernel)
            refine And.intro (show -2147483648 ≤ (10 * (σ 12 14)) ∧ (10 * (σ 12 14)) ≤ 2147483647 from by omega) ?_
            refine And.intro (fun _ => ?_) (fun (q : (σ 12 4) < (σ 12 3)) => (by exfalso; omega))
            refine And.intro (show -2147483648 ≤ ((10 * (σ 12 14)) + (-1)) ∧ ((10 * (σ 12 14)) + (-1)) ≤ 2147483647 from by omega) ?_
            refine And.intro (show -2147483648 ≤ (((10 * (σ 12 14)) + (-1)) - 48) ∧ (((10 * (σ 12 14)) + (-1)) - 48) ≤ 2147483647 from by omega) ?_
            refine And.intro (show Int.negSucc 2147483647 ≤ (((10 * (σ 12 14)) + (-1)) - 48) ∧ (((10 * (σ 12 14)) + (-1)) - 48) ≤ 2147483647 from rgm (by omega)) ?_
            refine And.intro (show -2147483648 ≤ ((σ 12 13) + 1) ∧ ((σ 12 13) + 1) ≤ 2147483647 from by omega) ?_
            refine And.intro (show Int.negSucc 2147483647 ≤ ((σ 12 13) + 1) ∧ ((σ 12 13) + 1) ≤ 2147483647 from rgm (by omega)) ?_
            refine And.intro (show -2147483648 ≤ ((σ 12 4) + 1) ∧ ((σ 12 4) + 1) ≤ 2147483647 from by omega) ?_
            refine And.intro (show 0 ≤ ((σ 12 4) + 1) ∧ ((σ 12 4) + 1) ≤ 940 from by omega) ?_
            first
            | (exfalso; omega)
            | (show zG E gJ1 md271 w gm_271 181 [(0, .inr (.inl 12)), (2, .inl sm), (3, .inl 1)] (vup (vup (vup σ 12 14 (((10 * (σ 12 14)) + (-1)) - 48)) 12 13 ((σ 12 13) + 1)) 12 4 ((σ 12 4) + 1)) K; exact hN _ _ (show σ 12 4 < (σ 12 4) + 1 from by omega) (zfr_up (zfr_up (zfr_up hf (by decide)) (by decide)) (by decide)) (Or.inl (show p0 + 1 ≤ (σ 12 4) + 1 from by omega)) (show 0 ≤ (σ 12 13) + 1 ∧ (σ 12 13) + 1 ≤ (σ 12 4) + 1 from by omega) (show (σ 12 13) + 1 = 0 → ((10 * (σ 12 14)) + (-1)) - 48 = 0 from fun q => by omega) (show (σ 12 13) + 1 = 1 → 0 ≤ ((10 * (σ 12 14)) + (-1)) - 48 ∧ ((10 * (σ 12 14)) + (-1)) - 48 ≤ 74 from fun q => by omega) (by omega) (by omega))
    · refine And.intro (show 0 ≤ (σ 12 4) ∧ (σ 12 4) < 940 from by omega) ?_
      refine And.intro (fun (c35 : (vand (σ 51 (σ 12 4)) 255) < 97) => ?_) (fun (c36 : 97 ≤ (vand (σ 51 (σ 12 4)) 255)) => ?_)
      · refine And.intro (show 0 ≤ 0 ∧ 0 ≤ 1 from by omega) ?_
        refine And.intro (fun (c37 : ¬ 0 = sm) => ?_) (fun (c38 : 0 = sm) => ?_)
        · have f39 : (-2147483648) ≤ σ 12 13 ∧ σ 12 13 ≤ 2147483647 := zf B hb (t := 12) (f := 13) (by decide +kernel)
          refine And.intro (fun (c40 : 7 ≤ (σ 12 13)) => ?_) (fun (c41 : (σ 12 13) < 7) => ?_)
          · refine And.intro (fun _ => ?_) (fun (q : (σ 12 13) < 2) => (by exfalso; omega))
            refine And.intro (show -2147483648 ≤ ((σ 12 13) + 1) ∧ ((σ 12 13) + 1) ≤ 2147483647 from by omega) ?_
            refine And.intro (show Int.negSucc 2147483647 ≤ ((σ 12 13) + 1) ∧ ((σ 12 13) + 1) ≤ 2147483647 from rgm (by omega)) ?_
            refine And.intro (show -2147483648 ≤ ((σ 12 4) + 1) ∧ ((σ 12 4) + 1) ≤ 2147483647 from by omega) ?_
            refine And.intro (show 0 ≤ ((σ 12 4) + 1) ∧ ((σ 12 4) + 1) ≤ 940 from by omega) ?_
            first
            | (exfalso; omega)
            | (show zG E gJ1 md271 w gm_271 181 [(0, .inr (.inl 12)), (2, .inl sm), (3, .inl 0)] (vup (vup σ 12 13 ((σ 12 13) + 1)) 12 4 ((σ 12 4) + 1)) K; exact hN _ _ (show σ 12 4 < (σ 12 4) + 1 from by omega) (zfr_up (zfr_up hf (by decide)) (by decide)) (Or.inl (show p0 + 1 ≤ (σ 12 4) + 1 from by omega)) (show 0 ≤ (σ 12 13) + 1 ∧ (σ 12 13) + 1 ≤ (σ 12 4) + 1 from by omega) (show (σ 12 13) + 1 = 0 → σ 12 14 = 0 from fun q => by omega) (show (σ 12 13) + 1 = 1 → 0 ≤ σ 12 14 ∧ σ 12 14 ≤ 74 from fun q => by omega) (by omega) (by omega))
          · refine And.intro (fun (q : (σ 12 3) ≤ (σ 12 4)) => (by exfalso; omega)) (fun _ => ?_)
            refine And.intro (show 0 ≤ (σ 12 4) ∧ (σ 12 4) < 940 from by omega) ?_
            refine And.intro (fun (c42 : 2 ≤ (σ 12 13)) => ?_) (fun (c43 : (σ 12 13) < 2) => ?_)
            · refine And.intro (show -2147483648 ≤ ((σ 12 13) + 1) ∧ ((σ 12 13) + 1) ≤ 2147483647 from by omega) ?_
              refine And.intro (show Int.negSucc 2147483647 ≤ ((σ 12 13) + 1) ∧ ((σ 12 13) + 1) ≤ 2147483647 from rgm (by omega)) ?_
              refine And.intro (show -2147483648 ≤ ((σ 12 4) + 1) ∧ ((σ 12 4) + 1) ≤ 2147483647 from by omega) ?_
              refine And.intro (show 0 ≤ ((σ 12 4) + 1) ∧ ((σ 12 4) + 1) ≤ 940 from by omega) ?_
              first
              | (exfalso; omega)
              | (show zG E gJ1 md271 w gm_271 181 [(0, .inr (.inl 12)), (2, .inl sm), (3, .inl 0)] (vup (vup σ 12 13 ((σ 12 13) + 1)) 12 4 ((σ 12 4) + 1)) K; exact hN _ _ (show σ 12 4 < (σ 12 4) + 1 from by omega) (zfr_up (zfr_up hf (by decide)) (by decide)) (Or.inl (show p0 + 1 ≤ (σ 12 4) + 1 from by omega)) (show 0 ≤ (σ 12 13) + 1 ∧ (σ 12 13) + 1 ≤ (σ 12 4) + 1 from by omega) (show (σ 12 13) + 1 = 0 → σ 12 14 = 0 from fun q => by omega) (show (σ 12 13) + 1 = 1 → 0 ≤ σ 12 14 ∧ σ 12 14 ≤ 74 from fun q => by omega) (by omega) (by omega))
            · have f44 : (-2147483648) ≤ σ 12 14 ∧ σ 12 14 ≤ 2147483647 := zf B hb (t := 12) (f := 14) (by decide +kernel)
              refine And.intro (show -2147483648 ≤ (10 * (σ 12 14)) ∧ (10 * (σ 12 14)) ≤ 2147483647 from by omega) ?_
              refine And.intro (fun (q : (σ 12 3) ≤ (σ 12 4)) => (by exfalso; omega)) (fun _ => ?_)
              refine And.intro (show 0 ≤ (σ 12 4) ∧ (σ 12 4) < 940 from by omega) ?_
              refine And.intro (show -2147483648 ≤ ((10 * (σ 12 14)) + (vand (σ 51 (σ 12 4)) 255)) ∧ ((10 * (σ 12 14)) + (vand (σ 51 (σ 12 4)) 255)) ≤ 2147483647 from by omega) ?_
              refine And.intro (show -2147483648 ≤ (((10 * (σ 12 14)) + (vand (σ 51 (σ 12 4)) 255)) - 48) ∧ (((10 * (σ 12 14)) + (vand (σ 51 (σ 12 4)) 255)) - 48) ≤ 2147483647 from by omega) ?_
              refine And.intro (show Int.negSucc 2147483647 ≤ (((10 * (σ 12 14)) + (vand (σ 51 (σ 12 4)) 255)) - 48) ∧ (((10 * (σ 12 14)) + (vand (σ 51 (σ 12 4)) 255)) - 48) ≤ 2147483647 from rgm (by omega)) ?_
              refine And.intro (show -2147483648 ≤ ((σ 12 13) + 1) ∧ ((σ 12 13) + 1) ≤ 2147483647 from by omega) ?_
              refine And.intro (show Int.negSucc 2147483647 ≤ ((σ 12 13) + 1) ∧ ((σ 12 13) + 1) ≤ 2147483647 from rgm (by omega)) ?_
              refine And.intro (show -2147483648 ≤ ((σ 12 4) + 1) ∧ ((σ 12 4) + 1) ≤ 2147483647 from by omega) ?_
              refine And.intro (show 0 ≤ ((σ 12 4) + 1) ∧ ((σ 12 4) + 1) ≤ 940 from by omega) ?_
              first
              | (exfalso; omega)
              | (show zG E gJ1 md271 w gm_271 181 [(0, .inr (.inl 12)), (2, .inl sm), (3, .inl 0)] (vup (vup (vup σ 12 14 (((10 * (σ 12 14)) + (vand (σ 51 (σ 12 4)) 255)) - 48)) 12 13 ((σ 12 13) + 1)) 12 4 ((σ 12 4) + 1)) K; exact hN _ _ (show σ 12 4 < (σ 12 4) + 1 from by omega) (zfr_up (zfr_up (zfr_up hf (by decide)) (by decide)) (by decide)) (Or.inl (show p0 + 1 ≤ (σ 12 4) + 1 from by omega)) (show 0 ≤ (σ 12 13) + 1 ∧ (σ 12 13) + 1 ≤ (σ 12 4) + 1 from by omega) (show (σ 12 13) + 1 = 0 → ((10 * (σ 12 14)) + (vand (σ 51 (σ 12 4)) 255)) - 48 = 0 from fun q => by omega) (show (σ 12 13) + 1 = 1 → 0 ≤ ((10 * (σ 12 14)) + (vand (σ 51 (σ 12 4)) 255)) - 48 ∧ ((10 * (σ 12 14)) + (vand (σ 51 (σ 12 4)) 255)) - 48 ≤ 74 from fun q => by omega) (by omega) (by omega))
        · have f45 : (-2147483648) ≤ σ 12 13 ∧ σ 12 13 ≤ 2147483647 := zf B hb (t := 12) (f := 13) (by decide +kernel)
          refine And.intro (fun (c46 : 7 ≤ (σ 12 13)) => ?_) (fun (c47 : (σ 12 13) < 7) => ?_)
          · refine And.intro (fun _ => ?_) (fun (q : (σ 12 13) < 2) => (by exfalso; omega))
            refine And.intro (show -2147483648 ≤ ((σ 12 13) + 1) ∧ ((σ 12 13) + 1) ≤ 2147483647 from by omega) ?_
            refine And.intro (show Int.negSucc 2147483647 ≤ ((σ 12 13) + 1) ∧ ((σ 12 13) + 1) ≤ 2147483647 from rgm (by omega)) ?_
            refine And.intro (show -2147483648 ≤ ((σ 12 4) + 1) ∧ ((σ 12 4) + 1) ≤ 2147483647 from by omega) ?_
            refine And.intro (show 0 ≤ ((σ 12 4) + 1) ∧ ((σ 12 4) + 1) ≤ 940 from by omega) ?_
            first
            | (exfalso; omega)
            | (show zG E gJ1 md271 w gm_271 181 [(0, .inr (.inl 12)), (2, .inl sm), (3, .inl 1)] (vup (vup σ 12 13 ((σ 12 13) + 1)) 12 4 ((σ 12 4) + 1)) K; exact hN _ _ (show σ 12 4 < (σ 12 4) + 1 from by omega) (zfr_up (zfr_up hf (by decide)) (by decide)) (Or.inl (show p0 + 1 ≤ (σ 12 4) + 1 from by omega)) (show 0 ≤ (σ 12 13) + 1 ∧ (σ 12 13) + 1 ≤ (σ 12 4) + 1 from by omega) (show (σ 12 13) + 1 = 0 → σ 12 14 = 0 from fun q => by omega) (show (σ 12 13) + 1 = 1 → 0 ≤ σ 12 14 ∧ σ 12 14 ≤ 74 from fun q => by omega) (by omega) (by omega))
          · refine And.intro (fun (q : (σ 12 3) ≤ (σ 12 4)) => (by exfalso; omega)) (fun _ => ?_)
            refine And.intro (show 0 ≤ (σ 12 4) ∧ (σ 12 4) < 940 from by omega) ?_
            refine And.intro (fun (c48 : 2 ≤ (σ 12 13)) => ?_) (fun (c49 : (σ 12 13) < 2) => ?_)
            · refine And.intro (show -2147483648 ≤ ((σ 12 13) + 1) ∧ ((σ 12 13) + 1) ≤ 2147483647 from by omega) ?_
              refine And.intro (show Int.negSucc 2147483647 ≤ ((σ 12 13) + 1) ∧ ((σ 12 13) + 1) ≤ 2147483647 from rgm (by omega)) ?_
              refine And.intro (show -2147483648 ≤ ((σ 12 4) + 1) ∧ ((σ 12 4) + 1) ≤ 2147483647 from by omega) ?_
              refine And.intro (show 0 ≤ ((σ 12 4) + 1) ∧ ((σ 12 4) + 1) ≤ 940 from by omega) ?_
              first
              | (exfalso; omega)
              | (show zG E gJ1 md271 w gm_271 181 [(0, .inr (.inl 12)), (2, .inl sm), (3, .inl 1)] (vup (vup σ 12 13 ((σ 12 13) + 1)) 12 4 ((σ 12 4) + 1)) K; exact hN _ _ (show σ 12 4 < (σ 12 4) + 1 from by omega) (zfr_up (zfr_up hf (by decide)) (by decide)) (Or.inl (show p0 + 1 ≤ (σ 12 4) + 1 from by omega)) (show 0 ≤ (σ 12 13) + 1 ∧ (σ 12 13) + 1 ≤ (σ 12 4) + 1 from by omega) (show (σ 12 13) + 1 = 0 → σ 12 14 = 0 from fun q => by omega) (show (σ 12 13) + 1 = 1 → 0 ≤ σ 12 14 ∧ σ 12 14 ≤ 74 from fun q => by omega) (by omega) (by omega))
            · have f50 : (-2147483648) ≤ σ 12 14 ∧ σ 12 14 ≤ 2147483647 := zf B hb (t := 12) (f := 14) (by decide +kernel)
              refine And.intro (show -2147483648 ≤ (10 * (σ 12 14)) ∧ (10 * (σ 12 14)) ≤ 2147483647 from by omega) ?_
              refine And.intro (fun (q : (σ 12 3) ≤ (σ 12 4)) => (by exfalso; omega)) (fun _ => ?_)
              refine And.intro (show 0 ≤ (σ 12 4) ∧ (σ 12 4) < 940 from by omega) ?_
              refine And.intro (show -2147483648 ≤ ((10 * (σ 12 14)) + (vand (σ 51 (σ 12 4)) 255)) ∧ ((10 * (σ 12 14)) + (vand (σ 51 (σ 12 4)) 255)) ≤ 2147483647 from by omega) ?_
              refine And.intro (show -2147483648 ≤ (((10 * (σ 12 14)) + (vand (σ 51 (σ 12 4)) 255)) - 48) ∧ (((10 * (σ 12 14)) + (vand (σ 51 (σ 12 4)) 255)) - 48) ≤ 2147483647 from by omega) ?_
              refine And.intro (show Int.negSucc 2147483647 ≤ (((10 * (σ 12 14)) + (vand (σ 51 (σ 12 4)) 255)) - 48) ∧ (((10 * (σ 12 14)) + (vand (σ 51 (σ 12 4)) 255)) - 48) ≤ 2147483647 from rgm (by omega)) ?_
              refine And.intro (show -2147483648 ≤ ((σ 12 13) + 1) ∧ ((σ 12 13) + 1) ≤ 2147483647 from by omega) ?_
              refine And.intro (show Int.negSucc 2147483647 ≤ ((σ 12 13) + 1) ∧ ((σ 12 13) + 1) ≤ 2147483647 from rgm (by omega)) ?_
              refine And.intro (show -2147483648 ≤ ((σ 12 4) + 1) ∧ ((σ 12 4) + 1) ≤ 2147483647 from by omega) ?_
              refine And.intro (show 0 ≤ ((σ 12 4) + 1) ∧ ((σ 12 4) + 1) ≤ 940 from by omega) ?_
              first
              | (exfalso; omega)
              | (show zG E gJ1 md271 w gm_271 181 [(0, .inr (.inl 12)), (2, .inl sm), (3, .inl 1)] (vup (vup (vup σ 12 14 (((10 * (σ 12 14)) + (vand (σ 51 (σ 12 4)) 255)) - 48)) 12 13 ((σ 12 13) + 1)) 12 4 ((σ 12 4) + 1)) K; exact hN _ _ (show σ 12 4 < (σ 12 4) + 1 from by omega) (zfr_up (zfr_up (zfr_up hf (by decide)) (by decide)) (by decide)) (Or.inl (show p0 + 1 ≤ (σ 12 4) + 1 from by omega)) (show 0 ≤ (σ 12 13) + 1 ∧ (σ 12 13) + 1 ≤ (σ 12 4) + 1 from by omega) (show (σ 12 13) + 1 = 0 → ((10 * (σ 12 14)) + (vand (σ 51 (σ 12 4)) 255)) - 48 = 0 from fun q => by omega) (show (σ 12 13) + 1 = 1 → 0 ≤ ((10 * (σ 12 14)) + (vand (σ 51 (σ 12 4)) 255)) - 48 ∧ ((10 * (σ 12 14)) + (vand (σ 51 (σ 12 4)) 255)) - 48 ≤ 74 from fun q => by omega) (by omega) (by omega))
      · refine And.intro (fun (c51 : 122 < (vand (σ 51 (σ 12 4)) 255)) => ?_) (fun (c52 : (vand (σ 51 (σ 12 4)) 255) ≤ 122) => ?_)
        · refine And.intro (show 0 ≤ 0 ∧ 0 ≤ 1 from by omega) ?_
          refine And.intro (fun (c53 : ¬ 0 = sm) => ?_) (fun (c54 : 0 = sm) => ?_)
          · have f55 : (-2147483648) ≤ σ 12 13 ∧ σ 12 13 ≤ 2147483647 := zf B hb (t := 12) (f := 13) (by decide +kernel)
            refine And.intro (fun (c56 : 7 ≤ (σ 12 13)) => ?_) (fun (c57 : (σ 12 13) < 7) => ?_)
            · refine And.intro (fun _ => ?_) (fun (q : (σ 12 13) < 2) => (by exfalso; omega))
              refine And.intro (show -2147483648 ≤ ((σ 12 13) + 1) ∧ ((σ 12 13) + 1) ≤ 2147483647 from by omega) ?_
              refine And.intro (show Int.negSucc 2147483647 ≤ ((σ 12 13) + 1) ∧ ((σ 12 13) + 1) ≤ 2147483647 from rgm (by omega)) ?_
              refine And.intro (show -2147483648 ≤ ((σ 12 4) + 1) ∧ ((σ 12 4) + 1) ≤ 2147483647 from by omega) ?_
              refine And.intro (show 0 ≤ ((σ 12 4) + 1) ∧ ((σ 12 4) + 1) ≤ 940 from by omega) ?_
              first
              | (exfalso; omega)
              | (show zG E gJ1 md271 w gm_271 181 [(0, .inr (.inl 12)), (2, .inl sm), (3, .inl 0)] (vup (vup σ 12 13 ((σ 12 13) + 1)) 12 4 ((σ 12 4) + 1)) K; exact hN _ _ (show σ 12 4 < (σ 12 4) + 1 from by omega) (zfr_up (zfr_up hf (by decide)) (by decide)) (Or.inl (show p0 + 1 ≤ (σ 12 4) + 1 from by omega)) (show 0 ≤ (σ 12 13) + 1 ∧ (σ 12 13) + 1 ≤ (σ 12 4) + 1 from by omega) (show (σ 12 13) + 1 = 0 → σ 12 14 = 0 from fun q => by omega) (show (σ 12 13) + 1 = 1 → 0 ≤ σ 12 14 ∧ σ 12 14 ≤ 74 from fun q => by omega) (by omega) (by omega))
            · refine And.intro (fun (q : (σ 12 3) ≤ (σ 12 4)) => (by exfalso; omega)) (fun _ => ?_)
              refine And.intro (show 0 ≤ (σ 12 4) ∧ (σ 12 4) < 940 from by omega) ?_
              refine And.intro (fun (c58 : 2 ≤ (σ 12 13)) => ?_) (fun (c59 : (σ 12 13) < 2) => ?_)
              · refine And.intro (show -2147483648 ≤ ((σ 12 13) + 1) ∧ ((σ 12 13) + 1) ≤ 2147483647 from by omega) ?_
                refine And.intro (show Int.negSucc 2147483647 ≤ ((σ 12 13) + 1) ∧ ((σ 12 13) + 1) ≤ 2147483647 from rgm (by omega)) ?_
                refine And.intro (show -2147483648 ≤ ((σ 12 4) + 1) ∧ ((σ 12 4) + 1) ≤ 2147483647 from by omega) ?_
                refine And.intro (show 0 ≤ ((σ 12 4) + 1) ∧ ((σ 12 4) + 1) ≤ 940 from by omega) ?_
                first
                | (exfalso; omega)
                | (show zG E gJ1 md271 w gm_271 181 [(0, .inr (.inl 12)), (2, .inl sm), (3, .inl 0)] (vup (vup σ 12 13 ((σ 12 13) + 1)) 12 4 ((σ 12 4) + 1)) K; exact hN _ _ (show σ 12 4 < (σ 12 4) + 1 from by omega) (zfr_up (zfr_up hf (by decide)) (by decide)) (Or.inl (show p0 + 1 ≤ (σ 12 4) + 1 from by omega)) (show 0 ≤ (σ 12 13) + 1 ∧ (σ 12 13) + 1 ≤ (σ 12 4) + 1 from by omega) (show (σ 12 13) + 1 = 0 → σ 12 14 = 0 from fun q => by omega) (show (σ 12 13) + 1 = 1 → 0 ≤ σ 12 14 ∧ σ 12 14 ≤ 74 from fun q => by omega) (by omega) (by omega))
              · have f60 : (-2147483648) ≤ σ 12 14 ∧ σ 12 14 ≤ 2147483647 := zf B hb (t := 12) (f := 14) (by decide +kernel)
                refine And.intro (show -2147483648 ≤ (10 * (σ 12 14)) ∧ (10 * (σ 12 14)) ≤ 2147483647 from by omega) ?_
                refine And.intro (fun (q : (σ 12 3) ≤ (σ 12 4)) => (by exfalso; omega)) (fun _ => ?_)
                refine And.intro (show 0 ≤ (σ 12 4) ∧ (σ 12 4) < 940 from by omega) ?_
                refine And.intro (show -2147483648 ≤ ((10 * (σ 12 14)) + (vand (σ 51 (σ 12 4)) 255)) ∧ ((10 * (σ 12 14)) + (vand (σ 51 (σ 12 4)) 255)) ≤ 2147483647 from by omega) ?_
                refine And.intro (show -2147483648 ≤ (((10 * (σ 12 14)) + (vand (σ 51 (σ 12 4)) 255)) - 48) ∧ (((10 * (σ 12 14)) + (vand (σ 51 (σ 12 4)) 255)) - 48) ≤ 2147483647 from by omega) ?_
                refine And.intro (show Int.negSucc 2147483647 ≤ (((10 * (σ 12 14)) + (vand (σ 51 (σ 12 4)) 255)) - 48) ∧ (((10 * (σ 12 14)) + (vand (σ 51 (σ 12 4)) 255)) - 48) ≤ 2147483647 from rgm (by omega)) ?_
                refine And.intro (show -2147483648 ≤ ((σ 12 13) + 1) ∧ ((σ 12 13) + 1) ≤ 2147483647 from by omega) ?_
                refine And.intro (show Int.negSucc 2147483647 ≤ ((σ 12 13) + 1) ∧ ((σ 12 13) + 1) ≤ 2147483647 from rgm (by omega)) ?_
                refine And.intro (show -2147483648 ≤ ((σ 12 4) + 1) ∧ ((σ 12 4) + 1) ≤ 2147483647 from by omega) ?_
                refine And.intro (show 0 ≤ ((σ 12 4) + 1) ∧ ((σ 12 4) + 1) ≤ 940 from by omega) ?_
                first
                | (exfalso; omega)
                | (show zG E gJ1 md271 w gm_271 181 [(0, .inr (.inl 12)), (2, .inl sm), (3, .inl 0)] (vup (vup (vup σ 12 14 (((10 * (σ 12 14)) + (vand (σ 51 (σ 12 4)) 255)) - 48)) 12 13 ((σ 12 13) + 1)) 12 4 ((σ 12 4) + 1)) K; exact hN _ _ (show σ 12 4 < (σ 12 4) + 1 from by omega) (zfr_up (zfr_up (zfr_up hf (by decide)) (by decide)) (by decide)) (Or.inl (show p0 + 1 ≤ (σ 12 4) + 1 from by omega)) (show 0 ≤ (σ 12 13) + 1 ∧ (σ 12 13) + 1 ≤ (σ 12 4) + 1 from by omega) (show (σ 12 13) + 1 = 0 → ((10 * (σ 12 14)) + (vand (σ 51 (σ 12 4)) 255)) - 48 = 0 from fun q => by omega) (show (σ 12 13) + 1 = 1 → 0 ≤ ((10 * (σ 12 14)) + (vand (σ 51 (σ 12 4)) 255)) - 48 ∧ ((10 * (σ 12 14)) + (vand (σ 51 (σ 12 4)) 255)) - 48 ≤ 74 from fun q => by omega) (by omega) (by omega))
          · have f61 : (-2147483648) ≤ σ 12 13 ∧ σ 12 13 ≤ 2147483647 := zf B hb (t := 12) (f := 13) (by decide +kernel)
            refine And.intro (fun (c62 : 7 ≤ (σ 12 13)) => ?_) (fun (c63 : (σ 12 13) < 7) => ?_)
            · refine And.intro (fun _ => ?_) (fun (q : (σ 12 13) < 2) => (by exfalso; omega))
              refine And.intro (show -2147483648 ≤ ((σ 12 13) + 1) ∧ ((σ 12 13) + 1) ≤ 2147483647 from by omega) ?_
              refine And.intro (show Int.negSucc 2147483647 ≤ ((σ 12 13) + 1) ∧ ((σ 12 13) + 1) ≤ 2147483647 from rgm (by omega)) ?_
              refine And.intro (show -2147483648 ≤ ((σ 12 4) + 1) ∧ ((σ 12 4) + 1) ≤ 2147483647 from by omega) ?_
              refine And.intro (show 0 ≤ ((σ 12 4) + 1) ∧ ((σ 12 4) + 1) ≤ 940 from by omega) ?_
              first
              | (exfalso; omega)
              | (show zG E gJ1 md271 w gm_271 181 [(0, .inr (.inl 12)), (2, .inl sm), (3, .inl 1)] (vup (vup σ 12 13 ((σ 12 13) + 1)) 12 4 ((σ 12 4) + 1)) K; exact hN _ _ (show σ 12 4 < (σ 12 4) + 1 from by omega) (zfr_up (zfr_up hf (by decide)) (by decide)) (Or.inl (show p0 + 1 ≤ (σ 12 4) + 1 from by omega)) (show 0 ≤ (σ 12 13) + 1 ∧ (σ 12 13) + 1 ≤ (σ 12 4) + 1 from by omega) (show (σ 12 13) + 1 = 0 → σ 12 14 = 0 from fun q => by omega) (show (σ 12 13) + 1 = 1 → 0 ≤ σ 12 14 ∧ σ 12 14 ≤ 74 from fun q => by omega) (by omega) (by omega))
            · refine And.intro (fun (q : (σ 12 3) ≤ (σ 12 4)) => (by exfalso; omega)) (fun _ => ?_)
              refine And.intro (show 0 ≤ (σ 12 4) ∧ (σ 12 4) < 940 from by omega) ?_
              refine And.intro (fun (c64 : 2 ≤ (σ 12 13)) => ?_) (fun (c65 : (σ 12 13) < 2) => ?_)
              · refine And.intro (show -2147483648 ≤ ((σ 12 13) + 1) ∧ ((σ 12 13) + 1) ≤ 2147483647 from by omega) ?_
                refine And.intro (show Int.negSucc 2147483647 ≤ ((σ 12 13) + 1) ∧ ((σ 12 13) + 1) ≤ 2147483647 from rgm (by omega)) ?_
                refine And.intro (show -2147483648 ≤ ((σ 12 4) + 1) ∧ ((σ 12 4) + 1) ≤ 2147483647 from by omega) ?_
                refine And.intro (show 0 ≤ ((σ 12 4) + 1) ∧ ((σ 12 4) + 1) ≤ 940 from by omega) ?_
                first
                | (exfalso; omega)
                | (show zG E gJ1 md271 w gm_271 181 [(0, .inr (.inl 12)), (2, .inl sm), (3, .inl 1)] (vup (vup σ 12 13 ((σ 12 13) + 1)) 12 4 ((σ 12 4) + 1)) K; exact hN _ _ (show σ 12 4 < (σ 12 4) + 1 from by omega) (zfr_up (zfr_up hf (by decide)) (by decide)) (Or.inl (show p0 + 1 ≤ (σ 12 4) + 1 from by omega)) (show 0 ≤ (σ 12 13) + 1 ∧ (σ 12 13) + 1 ≤ (σ 12 4) + 1 from by omega) (show (σ 12 13) + 1 = 0 → σ 12 14 = 0 from fun q => by omega) (show (σ 12 13) + 1 = 1 → 0 ≤ σ 12 14 ∧ σ 12 14 ≤ 74 from fun q => by omega) (by omega) (by omega))
              · have f66 : (-2147483648) ≤ σ 12 14 ∧ σ 12 14 ≤ 2147483647 := zf B hb (t := 12) (f := 14) (by decide +kernel)
                refine And.intro (show -2147483648 ≤ (10 * (σ 12 14)) ∧ (10 * (σ 12 14)) ≤ 2147483647 from by omega) ?_
                refine And.intro (fun (q : (σ 12 3) ≤ (σ 12 4)) => (by exfalso; omega)) (fun _ => ?_)
                refine And.intro (show 0 ≤ (σ 12 4) ∧ (σ 12 4) < 940 from by omega) ?_
                refine And.intro (show -2147483648 ≤ ((10 * (σ 12 14)) + (vand (σ 51 (σ 12 4)) 255)) ∧ ((10 * (σ 12 14)) + (vand (σ 51 (σ 12 4)) 255)) ≤ 2147483647 from by omega) ?_
                refine And.intro (show -2147483648 ≤ (((10 * (σ 12 14)) + (vand (σ 51 (σ 12 4)) 255)) - 48) ∧ (((10 * (σ 12 14)) + (vand (σ 51 (σ 12 4)) 255)) - 48) ≤ 2147483647 from by omega) ?_
                refine And.intro (show Int.negSucc 2147483647 ≤ (((10 * (σ 12 14)) + (vand (σ 51 (σ 12 4)) 255)) - 48) ∧ (((10 * (σ 12 14)) + (vand (σ 51 (σ 12 4)) 255)) - 48) ≤ 2147483647 from rgm (by omega)) ?_
                refine And.intro (show -2147483648 ≤ ((σ 12 13) + 1) ∧ ((σ 12 13) + 1) ≤ 2147483647 from by omega) ?_
                refine And.intro (show Int.negSucc 2147483647 ≤ ((σ 12 13) + 1) ∧ ((σ 12 13) + 1) ≤ 2147483647 from rgm (by omega)) ?_
                refine And.intro (show -2147483648 ≤ ((σ 12 4) + 1) ∧ ((σ 12 4) + 1) ≤ 2147483647 from by omega) ?_
                refine And.intro (show 0 ≤ ((σ 12 4) + 1) ∧ ((σ 12 4) + 1) ≤ 940 from by omega) ?_
                first
                | (exfalso; omega)
                | (show zG E gJ1 md271 w gm_271 181 [(0, .inr (.inl 12)), (2, .inl sm), (3, .inl 1)] (vup (vup (vup σ 12 14 (((10 * (σ 12 14)) + (vand (σ 51 (σ 12 4)) 255)) - 48)) 12 13 ((σ 12 13) + 1)) 12 4 ((σ 12 4) + 1)) K; exact hN _ _ (show σ 12 4 < (σ 12 4) + 1 from by omega) (zfr_up (zfr_up (zfr_up hf (by decide)) (by decide)) (by decide)) (Or.inl (show p0 + 1 ≤ (σ 12 4) + 1 from by omega)) (show 0 ≤ (σ 12 13) + 1 ∧ (σ 12 13) + 1 ≤ (σ 12 4) + 1 from by omega) (show (σ 12 13) + 1 = 0 → ((10 * (σ 12 14)) + (vand (σ 51 (σ 12 4)) 255)) - 48 = 0 from fun q => by omega) (show (σ 12 13) + 1 = 1 → 0 ≤ ((10 * (σ 12 14)) + (vand (σ 51 (σ 12 4)) 255)) - 48 ∧ ((10 * (σ 12 14)) + (vand (σ 51 (σ 12 4)) 255)) - 48 ≤ 74 from fun q => by omega) (by omega) (by omega))
        · refine And.intro (show 0 ≤ 1 ∧ 1 ≤ 1 from by omega) ?_
          refine And.intro (fun (c67 : ¬ 1 = sm) => ?_) (fun (c68 : 1 = sm) => ?_)
          · have f69 : (-2147483648) ≤ σ 12 13 ∧ σ 12 13 ≤ 2147483647 := zf B hb (t := 12) (f := 13) (by decide +kernel)
            refine And.intro (fun (c70 : 7 ≤ (σ 12 13)) => ?_) (fun (c71 : (σ 12 13) < 7) => ?_)
            · refine And.intro (fun _ => ?_) (fun (q : (σ 12 13) < 2) => (by exfalso; omega))
              refine And.intro (show -2147483648 ≤ ((σ 12 13) + 1) ∧ ((σ 12 13) + 1) ≤ 2147483647 from by omega) ?_
              refine And.intro (show Int.negSucc 2147483647 ≤ ((σ 12 13) + 1) ∧ ((σ 12 13) + 1) ≤ 2147483647 from rgm (by omega)) ?_
              refine And.intro (show -2147483648 ≤ ((σ 12 4) + 1) ∧ ((σ 12 4) + 1) ≤ 2147483647 from by omega) ?_
              refine And.intro (show 0 ≤ ((σ 12 4) + 1) ∧ ((σ 12 4) + 1) ≤ 940 from by omega) ?_
              first
              | (exfalso; omega)
              | (show zG E gJ1 md271 w gm_271 181 [(0, .inr (.inl 12)), (2, .inl sm), (3, .inl 0)] (vup (vup σ 12 13 ((σ 12 13) + 1)) 12 4 ((σ 12 4) + 1)) K; exact hN _ _ (show σ 12 4 < (σ 12 4) + 1 from by omega) (zfr_up (zfr_up hf (by decide)) (by decide)) (Or.inl (show p0 + 1 ≤ (σ 12 4) + 1 from by omega)) (show 0 ≤ (σ 12 13) + 1 ∧ (σ 12 13) + 1 ≤ (σ 12 4) + 1 from by omega) (show (σ 12 13) + 1 = 0 → σ 12 14 = 0 from fun q => by omega) (show (σ 12 13) + 1 = 1 → 0 ≤ σ 12 14 ∧ σ 12 14 ≤ 74 from fun q => by omega) (by omega) (by omega))
            · refine And.intro (fun (q : (σ 12 3) ≤ (σ 12 4)) => (by exfalso; omega)) (fun _ => ?_)
              refine And.intro (show 0 ≤ (σ 12 4) ∧ (σ 12 4) < 940 from by omega) ?_
              refine And.intro (fun (c72 : 2 ≤ (σ 12 13)) => ?_) (fun (c73 : (σ 12 13) < 2) => ?_)
              · refine And.intro (show -2147483648 ≤ ((σ 12 13) + 1) ∧ ((σ 12 13) + 1) ≤ 2147483647 from by omega) ?_
                refine And.intro (show Int.negSucc 2147483647 ≤ ((σ 12 13) + 1) ∧ ((σ 12 13) + 1) ≤ 2147483647 from rgm (by omega)) ?_
                refine And.intro (show -2147483648 ≤ ((σ 12 4) + 1) ∧ ((σ 12 4) + 1) ≤ 2147483647 from by omega) ?_
                refine And.intro (show 0 ≤ ((σ 12 4) + 1) ∧ ((σ 12 4) + 1) ≤ 940 from by omega) ?_
                first
                | (exfalso; omega)
                | (show zG E gJ1 md271 w gm_271 181 [(0, .inr (.inl 12)), (2, .inl sm), (3, .inl 0)] (vup (vup σ 12 13 ((σ 12 13) + 1)) 12 4 ((σ 12 4) + 1)) K; exact hN _ _ (show σ 12 4 < (σ 12 4) + 1 from by omega) (zfr_up (zfr_up hf (by decide)) (by decide)) (Or.inl (show p0 + 1 ≤ (σ 12 4) + 1 from by omega)) (show 0 ≤ (σ 12 13) + 1 ∧ (σ 12 13) + 1 ≤ (σ 12 4) + 1 from by omega) (show (σ 12 13) + 1 = 0 → σ 12 14 = 0 from fun q => by omega) (show (σ 12 13) + 1 = 1 → 0 ≤ σ 12 14 ∧ σ 12 14 ≤ 74 from fun q => by omega) (by omega) (by omega))
              · have f74 : (-2147483648) ≤ σ 12 14 ∧ σ 12 14 ≤ 2147483647 := zf B hb (t := 12) (f := 14) (by decide +kernel)
                refine And.intro (show -2147483648 ≤ (10 * (σ 12 14)) ∧ (10 * (σ 12 14)) ≤ 2147483647 from by omega) ?_
                refine And.intro (fun (q : (σ 12 3) ≤ (σ 12 4)) => (by exfalso; omega)) (fun _ => ?_)
                refine And.intro (show 0 ≤ (σ 12 4) ∧ (σ 12 4) < 940 from by omega) ?_
                refine And.intro (show -2147483648 ≤ ((10 * (σ 12 14)) + (vand (σ 51 (σ 12 4)) 255)) ∧ ((10 * (σ 12 14)) + (vand (σ 51 (σ 12 4)) 255)) ≤ 2147483647 from by omega) ?_
                refine And.intro (show -2147483648 ≤ (((10 * (σ 12 14)) + (vand (σ 51 (σ 12 4)) 255)) - 48) ∧ (((10 * (σ 12 14)) + (vand (σ 51 (σ 12 4)) 255)) - 48) ≤ 2147483647 from by omega) ?_
                refine And.intro (show Int.negSucc 2147483647 ≤ (((10 * (σ 12 14)) + (vand (σ 51 (σ 12 4)) 255)) - 48) ∧ (((10 * (σ 12 14)) + (vand (σ 51 (σ 12 4)) 255)) - 48) ≤ 2147483647 from rgm (by omega)) ?_
                refine And.intro (show -2147483648 ≤ ((σ 12 13) + 1) ∧ ((σ 12 13) + 1) ≤ 2147483647 from by omega) ?_
                refine And.intro (show Int.negSucc 2147483647 ≤ ((σ 12 13) + 1) ∧ ((σ 12 13) + 1) ≤ 2147483647 from rgm (by omega)) ?_
                refine And.intro (show -2147483648 ≤ ((σ 12 4) + 1) ∧ ((σ 12 4) + 1) ≤ 2147483647 from by omega) ?_
                refine And.intro (show 0 ≤ ((σ 12 4) + 1) ∧ ((σ 12 4) + 1) ≤ 940 from by omega) ?_
                first
                | (exfalso; omega)
                | (show zG E gJ1 md271 w gm_271 181 [(0, .inr (.inl 12)), (2, .inl sm), (3, .inl 0)] (vup (vup (vup σ 12 14 (((10 * (σ 12 14)) + (vand (σ 51 (σ 12 4)) 255)) - 48)) 12 13 ((σ 12 13) + 1)) 12 4 ((σ 12 4) + 1)) K; exact hN _ _ (show σ 12 4 < (σ 12 4) + 1 from by omega) (zfr_up (zfr_up (zfr_up hf (by decide)) (by decide)) (by decide)) (Or.inl (show p0 + 1 ≤ (σ 12 4) + 1 from by omega)) (show 0 ≤ (σ 12 13) + 1 ∧ (σ 12 13) + 1 ≤ (σ 12 4) + 1 from by omega) (show (σ 12 13) + 1 = 0 → ((10 * (σ 12 14)) + (vand (σ 51 (σ 12 4)) 255)) - 48 = 0 from fun q => by omega) (show (σ 12 13) + 1 = 1 → 0 ≤ ((10 * (σ 12 14)) + (vand (σ 51 (σ 12 4)) 255)) - 48 ∧ ((10 * (σ 12 14)) + (vand (σ 51 (σ 12 4)) 255)) - 48 ≤ 74 from fun q => by omega) (by omega) (by omega))
          · have f75 : (-2147483648) ≤ σ 12 13 ∧ σ 12 13 ≤ 2147483647 := zf B hb (t := 12) (f := 13) (by decide +kernel)
            refine And.intro (fun (c76 : 7 ≤ (σ 12 13)) => ?_) (fun (c77 : (σ 12 13) < 7) => ?_)
            · refine And.intro (fun _ => ?_) (fun (q : (σ 12 13) < 2) => (by exfalso; omega))
              refine And.intro (show -2147483648 ≤ ((σ 12 13) + 1) ∧ ((σ 12 13) + 1) ≤ 2147483647 from by omega) ?_
              refine And.intro (show Int.negSucc 2147483647 ≤ ((σ 12 13) + 1) ∧ ((σ 12 13) + 1) ≤ 2147483647 from rgm (by omega)) ?_
              refine And.intro (show -2147483648 ≤ ((σ 12 4) + 1) ∧ ((σ 12 4) + 1) ≤ 2147483647 from by omega) ?_
              refine And.intro (show 0 ≤ ((σ 12 4) + 1) ∧ ((σ 12 4) + 1) ≤ 940 from by omega) ?_
              first
              | (exfalso; omega)
              | (show zG E gJ1 md271 w gm_271 181 [(0, .inr (.inl 12)), (2, .inl sm), (3, .inl 1)] (vup (vup σ 12 13 ((σ 12 13) + 1)) 12 4 ((σ 12 4) + 1)) K; exact hN _ _ (show σ 12 4 < (σ 12 4) + 1 from by omega) (zfr_up (zfr_up hf (by decide)) (by decide)) (Or.inl (show p0 + 1 ≤ (σ 12 4) + 1 from by omega)) (show 0 ≤ (σ 12 13) + 1 ∧ (σ 12 13) + 1 ≤ (σ 12 4) + 1 from by omega) (show (σ 12 13) + 1 = 0 → σ 12 14 = 0 from fun q => by omega) (show (σ 12 13) + 1 = 1 → 0 ≤ σ 12 14 ∧ σ 12 14 ≤ 74 from fun q => by omega) (by omega) (by omega))
            · refine And.intro (fun (q : (σ 12 3) ≤ (σ 12 4)) => (by exfalso; omega)) (fun _ => ?_)
              refine And.intro (show 0 ≤ (σ 12 4) ∧ (σ 12 4) < 940 from by omega) ?_
              refine And.intro (fun (c78 : 2 ≤ (σ 12 13)) => ?_) (fun (c79 : (σ 12 13) < 2) => ?_)
              · refine And.intro (show -2147483648 ≤ ((σ 12 13) + 1) ∧ ((σ 12 13) + 1) ≤ 2147483647 from by omega) ?_
                refine And.intro (show Int.negSucc 2147483647 ≤ ((σ 12 13) + 1) ∧ ((σ 12 13) + 1) ≤ 2147483647 from rgm (by omega)) ?_
                refine And.intro (show -2147483648 ≤ ((σ 12 4) + 1) ∧ ((σ 12 4) + 1) ≤ 2147483647 from by omega) ?_
                refine And.intro (show 0 ≤ ((σ 12 4) + 1) ∧ ((σ 12 4) + 1) ≤ 940 from by omega) ?_
                first
                | (exfalso; omega)
                | (show zG E gJ1 md271 w gm_271 181 [(0, .inr (.inl 12)), (2, .inl sm), (3, .inl 1)] (vup (vup σ 12 13 ((σ 12 13) + 1)) 12 4 ((σ 12 4) + 1)) K; exact hN _ _ (show σ 12 4 < (σ 12 4) + 1 from by omega) (zfr_up (zfr_up hf (by decide)) (by decide)) (Or.inl (show p0 + 1 ≤ (σ 12 4) + 1 from by omega)) (show 0 ≤ (σ 12 13) + 1 ∧ (σ 12 13) + 1 ≤ (σ 12 4) + 1 from by omega) (show (σ 12 13) + 1 = 0 → σ 12 14 = 0 from fun q => by omega) (show (σ 12 13) + 1 = 1 → 0 ≤ σ 12 14 ∧ σ 12 14 ≤ 74 from fun q => by omega) (by omega) (by omega))
              · have f80 : (-2147483648) ≤ σ 12 14 ∧ σ 12 14 ≤ 2147483647 := zf B hb (t := 12) (f := 14) (by decide +kernel)
                refine And.intro (show -2147483648 ≤ (10 * (σ 12 14)) ∧ (10 * (σ 12 14)) ≤ 2147483647 from by omega) ?_
                refine And.intro (fun (q : (σ 12 3) ≤ (σ 12 4)) => (by exfalso; omega)) (fun _ => ?_)
                refine And.intro (show 0 ≤ (σ 12 4) ∧ (σ 12 4) < 940 from by omega) ?_
                refine And.intro (show -2147483648 ≤ ((10 * (σ 12 14)) + (vand (σ 51 (σ 12 4)) 255)) ∧ ((10 * (σ 12 14)) + (vand (σ 51 (σ 12 4)) 255)) ≤ 2147483647 from by omega) ?_
                refine And.intro (show -2147483648 ≤ (((10 * (σ 12 14)) + (vand (σ 51 (σ 12 4)) 255)) - 48) ∧ (((10 * (σ 12 14)) + (vand (σ 51 (σ 12 4)) 255)) - 48) ≤ 2147483647 from by omega) ?_
                refine And.intro (show Int.negSucc 2147483647 ≤ (((10 * (σ 12 14)) + (vand (σ 51 (σ 12 4)) 255)) - 48) ∧ (((10 * (σ 12 14)) + (vand (σ 51 (σ 12 4)) 255)) - 48) ≤ 2147483647 from rgm (by omega)) ?_
                refine And.intro (show -2147483648 ≤ ((σ 12 13) + 1) ∧ ((σ 12 13) + 1) ≤ 2147483647 from by omega) ?_
                refine And.intro (show Int.negSucc 2147483647 ≤ ((σ 12 13) + 1) ∧ ((σ 12 13) + 1) ≤ 2147483647 from rgm (by omega)) ?_
                refine And.intro (show -2147483648 ≤ ((σ 12 4) + 1) ∧ ((σ 12 4) + 1) ≤ 2147483647 from by omega) ?_
                refine And.intro (show 0 ≤ ((σ 12 4) + 1) ∧ ((σ 12 4) + 1) ≤ 940 from by omega) ?_
                first
                | (exfalso; omega)
                | (show zG E gJ1 md271 w gm_271 181 [(0, .inr (.inl 12)), (2, .inl sm), (3, .inl 1)] (vup (vup (vup σ 12 14 (((10 * (σ 12 14)) + (vand (σ 51 (σ 12 4)) 255)) - 48)) 12 13 ((σ 12 13) + 1)) 12 4 ((σ 12 4) + 1)) K; exact hN _ _ (show σ 12 4 < (σ 12 4) + 1 from by omega) (zfr_up (zfr_up (zfr_up hf (by decide)) (by decide)) (by decide)) (Or.inl (show p0 + 1 ≤ (σ 12 4) + 1 from by omega)) (show 0 ≤ (σ 12 13) + 1 ∧ (σ 12 13) + 1 ≤ (σ 12 4) + 1 from by omega) (show (σ 12 13) + 1 = 0 → ((10 * (σ 12 14)) + (vand (σ 51 (σ 12 4)) 255)) - 48 = 0 from fun q => by omega) (show (σ 12 13) + 1 = 1 → 0 ≤ ((10 * (σ 12 14)) + (vand (σ 51 (σ 12 4)) 255)) - 48 ∧ ((10 * (σ 12 14)) + (vand (σ 51 (σ 12 4)) 255)) - 48 ≤ 74 from fun q => by omega) (by omega) (by omega))
theorem z_sk2a (B : zB E) {σ0 : vS} {p0 : Int} (hK : ∀ σ : vS, zfr [12] σ0 σ → ((p0 ≤ σ 12 4 ∧ (σ 12 11 = 0 ∨ σ 12 11 = 4)) ∨ (p0 + 1 ≤ σ 12 4 ∧ 1 ≤ σ 12 11 ∧ σ 12 11 ≤ 4)) → K none σ) {sm : Int} : ∀ (m : Nat) (al : Int) (σ : vS), 940 - σ 12 4 < (m : Int) → zfr [12] σ0 σ → (p0 + 1 ≤ σ 12 4 ∨ (p0 ≤ σ 12 4 ∧ σ 12 4 < σ 12 3 ∧ ((97 ≤ vand (σ 51 (σ 12 4)) 255 ∧ vand (σ 51 (σ 12 4)) 255 ≤ 122) ∨ (48 ≤ vand (σ 51 (σ 12 4)) 255 ∧ vand (σ 51 (σ 12 4)) 255 ≤ 57)))) → (0 ≤ σ 12 13 ∧ σ 12 13 ≤ σ 12 4) → (σ 12 13 = 0 → σ 12 14 = 0) → (σ 12 13 = 1 → 0 ≤ σ 12 14 ∧ σ 12 14 ≤ 74) → (0 ≤ sm ∧ sm ≤ 1) → (0 ≤ al ∧ al ≤ 1) → zG E gJ1 md271 w gm_271 181 [(0, .inr (.inl 12)), (2, .inl sm), (3, .inl al)] σ K := by
  intro m
  induction m with
  | zero =>
    intro al σ hm hf hq h1 h2 h3 h4 h5
    refine zbd (fun hb => ?_)
    have f : 0 ≤ σ 12 4 ∧ σ 12 4 ≤ 940 := zf B hb (t := 12) (f := 4) (by decide +kernel)
    omega
  | succ m ih =>
    intro al σ hm hf hq h1 h2 h3 h4 h5
    refine zbd (fun hb => zgo B zS_nil [] [(0, [0]), (181, [0, 2, 3]), (201, [0, 2, 3])] (fun m => Nat.beq m.2.2.2.2.2.1 0) (by decide +kernel) ?_)
    have f1 : 0 ≤ σ 12 4 ∧ σ 12 4 ≤ 940 := zf B hb (t := 12) (f := 4) (by decide +kernel)
    have f2 : 0 ≤ σ 12 3 ∧ σ 12 3 ≤ 940 := zf B hb (t := 12) (f := 3) (by decide +kernel)
    refine And.intro (fun (c3 : (σ 12 3) ≤ (σ 12 4)) => ?_) (fun (c4 : (σ 12 4) < (σ 12 3)) => ?_)
    · refine And.intro (fun _ => ?_) (fun (q : 97 ≤ (-1)) => absurd q (by decide))
      refine And.intro (show 0 ≤ 0 ∧ 0 ≤ 1 from by omega) ?_
      refine And.intro (fun (q : ¬ 0 = 0) => absurd q (by decide)) (fun _ => ?_)
      refine And.intro (fun _ => ?_) (fun (q : (σ 12 4) < (σ 12 3)) => (by exfalso; omega))
      refine And.intro (fun _ => ?_) (fun (q : 48 ≤ (-1)) => absurd q (by decide))
      refine And.intro (show 0 ≤ 0 ∧ 0 ≤ 1 from by omega) ?_
      refine And.intro (fun _ => ?_) (fun (q : ¬ 0 = 0) => absurd q (by decide))
      refine And.intro (fun (c5 : al = 0) => ?_) (fun (c6 : ¬ al = 0) => ?_)
      · refine And.intro (show 0 ≤ 4 ∧ 4 ≤ 4 from by omega) ?_
        first
        | (exfalso; omega)
        | exact hK _ (zfr_up hf (by decide)) (show (p0 ≤ σ 12 4 ∧ (4 = 0 ∨ 4 = 4)) ∨ (p0 + 1 ≤ σ 12 4 ∧ 1 ≤ 4 ∧ 4 ≤ 4) from by omega)
      · have f7 : (-2147483648) ≤ σ 12 13 ∧ σ 12 13 ≤ 2147483647 := zf B hb (t := 12) (f := 13) (by decide +kernel)
        refine And.intro (fun (c8 : sm = 0) => ?_) (fun (c9 : ¬ sm = 0) => ?_)
        · refine And.intro (fun (c10 : (σ 12 13) ≤ 2) => ?_) (fun (c11 : 2 < (σ 12 13)) => ?_)
          · refine And.intro (fun _ => ?_) (fun (q : ¬ sm = 0) => (by exfalso; omega))
            refine And.intro (show 0 ≤ 2 ∧ 2 ≤ 4 from by omega) ?_
            first
            | (exfalso; omega)
            | exact hK _ (zfr_up hf (by decide)) (show (p0 ≤ σ 12 4 ∧ (2 = 0 ∨ 2 = 4)) ∨ (p0 + 1 ≤ σ 12 4 ∧ 1 ≤ 2 ∧ 2 ≤ 4) from by omega)
          · refine And.intro (show 0 ≤ 4 ∧ 4 ≤ 4 from by omega) ?_
            first
            | (exfalso; omega)
            | exact hK _ (zfr_up hf (by decide)) (show (p0 ≤ σ 12 4 ∧ (4 = 0 ∨ 4 = 4)) ∨ (p0 + 1 ≤ σ 12 4 ∧ 1 ≤ 4 ∧ 4 ≤ 4) from by omega)
        · refine And.intro (fun (c12 : (σ 12 13) ≤ 7) => ?_) (fun (c13 : 7 < (σ 12 13)) => ?_)
          · refine And.intro (fun (c14 : sm = 0) => ?_) (fun (c15 : ¬ sm = 0) => ?_)
            · refine And.intro (show 0 ≤ 2 ∧ 2 ≤ 4 from by omega) ?_
              first
              | (exfalso; omega)
              | exact hK _ (zfr_up hf (by decide)) (show (p0 ≤ σ 12 4 ∧ (2 = 0 ∨ 2 = 4)) ∨ (p0 + 1 ≤ σ 12 4 ∧ 1 ≤ 2 ∧ 2 ≤ 4) from by omega)
            · refine And.intro (show 0 ≤ 1 ∧ 1 ≤ 4 from by omega) ?_
              first
              | (exfalso; omega)
              | exact hK _ (zfr_up hf (by decide)) (show (p0 ≤ σ 12 4 ∧ (1 = 0 ∨ 1 = 4)) ∨ (p0 + 1 ≤ σ 12 4 ∧ 1 ≤ 1 ∧ 1 ≤ 4) from by omega)
          · refine And.intro (show 0 ≤ 4 ∧ 4 ≤ 4 from by omega) ?_
            first
            | (exfalso; omega)
            | exact hK _ (zfr_up hf (by decide)) (show (p0 ≤ σ 12 4 ∧ (4 = 0 ∨ 4 = 4)) ∨ (p0 + 1 ≤ σ 12 4 ∧ 1 ≤ 4 ∧ 4 ≤ 4) from by omega)
    · refine And.intro (show 0 ≤ (σ 12 4) ∧ (σ 12 4) < 940 from by omega) ?_
      refine And.intro (fun (c16 : (vand (σ 51 (σ 12 4)) 255) < 97) => ?_) (fun (c17 : 97 ≤ (vand (σ 51 (σ 12 4)) 255)) => ?_)
      · refine And.intro (show 0 ≤ 0 ∧ 0 ≤ 1 from by omega) ?_
        refine And.intro (fun (q : ¬ 0 = 0) => absurd q (by decide)) (fun _ => ?_)
        refine And.intro (fun (q : (σ 12 3) ≤ (σ 12 4)) => (by exfalso; omega)) (fun _ => ?_)
        refine And.intro (show 0 ≤ (σ 12 4) ∧ (σ 12 4) < 940 from by omega) ?_
        refine And.intro (fun (c18 : (vand (σ 51 (σ 12 4)) 255) < 48) => ?_) (fun (c19 : 48 ≤ (vand (σ 51 (σ 12 4)) 255)) => ?_)
        · refine And.intro (show 0 ≤ 0 ∧ 0 ≤ 1 from by omega) ?_
          refine And.intro (fun _ => ?_) (fun (q : ¬ 0 = 0) => absurd q (by decide))
          refine And.intro (fun (c20 : al = 0) => ?_) (fun (c21 : ¬ al = 0) => ?_)
          · refine And.intro (show 0 ≤ 4 ∧ 4 ≤ 4 from by omega) ?_
            first
            | (exfalso; omega)
            | exact hK _ (zfr_up hf (by decide)) (show (p0 ≤ σ 12 4 ∧ (4 = 0 ∨ 4 = 4)) ∨ (p0 + 1 ≤ σ 12 4 ∧ 1 ≤ 4 ∧ 4 ≤ 4) from by omega)
          · have f22 : (-2147483648) ≤ σ 12 13 ∧ σ 12 13 ≤ 2147483647 := zf B hb (t := 12) (f := 13) (by decide +kernel)
            refine And.intro (fun (c23 : sm = 0) => ?_) (fun (c24 : ¬ sm = 0) => ?_)
            · refine And.intro (fun (c25 : (σ 12 13) ≤ 2) => ?_) (fun (c26 : 2 < (σ 12 13)) => ?_)
              · refine And.intro (fun _ => ?_) (fun (q : ¬ sm = 0) => (by exfalso; omega))
                refine And.intro (show 0 ≤ 2 ∧ 2 ≤ 4 from by omega) ?_
                first
                | (exfalso; omega)
                | exact hK _ (zfr_up hf (by decide)) (show (p0 ≤ σ 12 4 ∧ (2 = 0 ∨ 2 = 4)) ∨ (p0 + 1 ≤ σ 12 4 ∧ 1 ≤ 2 ∧ 2 ≤ 4) from by omega)
              · refine And.intro (show 0 ≤ 4 ∧ 4 ≤ 4 from by omega) ?_
                first
                | (exfalso; omega)
                | exact hK _ (zfr_up hf (by decide)) (show (p0 ≤ σ 12 4 ∧ (4 = 0 ∨ 4 = 4)) ∨ (p0 + 1 ≤ σ 12 4 ∧ 1 ≤ 4 ∧ 4 ≤ 4) from by omega)
            · refine And.intro (fun (c27 : (σ 12 13) ≤ 7) => ?_) (fun (c28 : 7 < (σ 12 13)) => ?_)
              · refine And.intro (fun (c29 : sm = 0) => ?_) (fun (c30 : ¬ sm = 0) => ?_)
                · refine And.intro (show 0 ≤ 2 ∧ 2 ≤ 4 from by omega) ?_
                  first
                  | (exfalso; omega)
                  | exact hK _ (zfr_up hf (by decide)) (show (p0 ≤ σ 12 4 ∧ (2 = 0 ∨ 2 = 4)) ∨ (p0 + 1 ≤ σ 12 4 ∧ 1 ≤ 2 ∧ 2 ≤ 4) from by omega)
                · refine And.intro (show 0 ≤ 1 ∧ 1 ≤ 4 from by omega) ?_
                  first
                  | (exfalso; omega)
                  | exact hK _ (zfr_up hf (by decide)) (show (p0 ≤ σ 12 4 ∧ (1 = 0 ∨ 1 = 4)) ∨ (p0 + 1 ≤ σ 12 4 ∧ 1 ≤ 1 ∧ 1 ≤ 4) from by omega)
              · refine And.intro (show 0 ≤ 4 ∧ 4 ≤ 4 from by omega) ?_
                first
                | (exfalso; omega)
                | exact hK _ (zfr_up hf (by decide)) (show (p0 ≤ σ 12 4 ∧ (4 = 0 ∨ 4 = 4)) ∨ (p0 + 1 ≤ σ 12 4 ∧ 1 ≤ 4 ∧ 4 ≤ 4) from by omega)
        · refine And.intro (fun (c31 : 57 < (vand (σ 51 (σ 12 4)) 255)) => ?_) (fun (c32 : (vand (σ 51 (σ 12 4)) 255) ≤ 57) => ?_)
          · refine And.intro (show 0 ≤ 0 ∧ 0 ≤ 1 from by omega) ?_
            refine And.intro (fun _ => ?_) (fun (q : ¬ 0 = 0) => absurd q (by decide))
            refine And.intro (fun (c33 : al = 0) => ?_) (fun (c34 : ¬ al = 0) => ?_)
            · refine And.intro (show 0 ≤ 4 ∧ 4 ≤ 4 from by omega) ?_
              first
              | (exfalso; omega)
              | exact hK _ (zfr_up hf (by decide)) (show (p0 ≤ σ 12 4 ∧ (4 = 0 ∨ 4 = 4)) ∨ (p0 + 1 ≤ σ 12 4 ∧ 1 ≤ 4 ∧ 4 ≤ 4) from by omega)
            · have f35 : (-2147483648) ≤ σ 12 13 ∧ σ 12 13 ≤ 2147483647 := zf B hb (t := 12) (f := 13) (by decide +kernel)
              refine And.intro (fun (c36 : sm = 0) => ?_) (fun (c37 : ¬ sm = 0) => ?_)
              · refine And.intro (fun (c38 : (σ 12 13) ≤ 2) => ?_) (fun (c39 : 2 < (σ 12 13)) => ?_)
                · refine And.intro (fun _ => ?_) (fun (q : ¬ sm = 0) => (by exfalso; omega))
                  refine And.intro (show 0 ≤ 2 ∧ 2 ≤ 4 from by omega) ?_
                  first
                  | (exfalso; omega)
                  | exact hK _ (zfr_up hf (by decide)) (show (p0 ≤ σ 12 4 ∧ (2 = 0 ∨ 2 = 4)) ∨ (p0 + 1 ≤ σ 12 4 ∧ 1 ≤ 2 ∧ 2 ≤ 4) from by omega)
                · refine And.intro (show 0 ≤ 4 ∧ 4 ≤ 4 from by omega) ?_
                  first
                  | (exfalso; omega)
                  | exact hK _ (zfr_up hf (by decide)) (show (p0 ≤ σ 12 4 ∧ (4 = 0 ∨ 4 = 4)) ∨ (p0 + 1 ≤ σ 12 4 ∧ 1 ≤ 4 ∧ 4 ≤ 4) from by omega)
              · refine And.intro (fun (c40 : (σ 12 13) ≤ 7) => ?_) (fun (c41 : 7 < (σ 12 13)) => ?_)
                · refine And.intro (fun (c42 : sm = 0) => ?_) (fun (c43 : ¬ sm = 0) => ?_)
                  · refine And.intro (show 0 ≤ 2 ∧ 2 ≤ 4 from by omega) ?_
                    first
                    | (exfalso; omega)
                    | exact hK _ (zfr_up hf (by decide)) (show (p0 ≤ σ 12 4 ∧ (2 = 0 ∨ 2 = 4)) ∨ (p0 + 1 ≤ σ 12 4 ∧ 1 ≤ 2 ∧ 2 ≤ 4) from by omega)
                  · refine And.intro (show 0 ≤ 1 ∧ 1 ≤ 4 from by omega) ?_
                    first
                    | (exfalso; omega)
                    | exact hK _ (zfr_up hf (by decide)) (show (p0 ≤ σ 12 4 ∧ (1 = 0 ∨ 1 = 4)) ∨ (p0 + 1 ≤ σ 12 4 ∧ 1 ≤ 1 ∧ 1 ≤ 4) from by omega)
                · refine And.intro (show 0 ≤ 4 ∧ 4 ≤ 4 from by omega) ?_
                  first
                  | (exfalso; omega)
                  | exact hK _ (zfr_up hf (by decide)) (show (p0 ≤ σ 12 4 ∧ (4 = 0 ∨ 4 = 4)) ∨ (p0 + 1 ≤ σ 12 4 ∧ 1 ≤ 4 ∧ 4 ≤ 4) from by omega)
          · refine And.intro (show 0 ≤ 1 ∧ 1 ≤ 1 from by omega) ?_
            refine And.intro (fun (q : 1 = 0) => absurd q (by decide)) (fun _ => ?_)
            first
            | (exfalso; omega)
            | (show zG E gJ1 md271 w gm_271 201 [(0, .inr (.inl 12)), (2, .inl sm), (3, .inl al)] σ K; exact z_sk3a B (fun al2 σ2 a0 a1 a2 a3 a4 a5 a6 a7 => ih al2 σ2 (by omega) a1 a2 a3 a4 a5 a6 a7) hf (by omega) (by omega) h1 h2 h3 h4 h5)
      · refine And.intro (fun (c44 : 122 < (vand (σ 51 (σ 12 4)) 255)) => ?_) (fun (c45 : (vand (σ 51 (σ 12 4)) 255) ≤ 122) => ?_)
        · refine And.intro (show 0 ≤ 0 ∧ 0 ≤ 1 from by omega) ?_
          refine And.intro (fun (q : ¬ 0 = 0) => absurd q (by decide)) (fun _ => ?_)
          refine And.intro (fun (q : (σ 12 3) ≤ (σ 12 4)) => (by exfalso; omega)) (fun _ => ?_)
          refine And.intro (show 0 ≤ (σ 12 4) ∧ (σ 12 4) < 940 from by omega) ?_
          refine And.intro (fun (q : (vand (σ 51 (σ 12 4)) 255) < 48) => (by exfalso; omega)) (fun _ => ?_)
          refine And.intro (fun _ => ?_) (fun (q : (vand (σ 51 (σ 12 4)) 255) ≤ 57) => (by exfalso; omega))
          refine And.intro (show 0 ≤ 0 ∧ 0 ≤ 1 from by omega) ?_
          refine And.intro (fun _ => ?_) (fun (q : ¬ 0 = 0) => absurd q (by decide))
          refine And.intro (fun (c46 : al = 0) => ?_) (fun (c47 : ¬ al = 0) => ?_)
          · refine And.intro (show 0 ≤ 4 ∧ 4 ≤ 4 from by omega) ?_
            first
            | (exfalso; omega)
            | exact hK _ (zfr_up hf (by decide)) (show (p0 ≤ σ 12 4 ∧ (4 = 0 ∨ 4 = 4)) ∨ (p0 + 1 ≤ σ 12 4 ∧ 1 ≤ 4 ∧ 4 ≤ 4) from by omega)
          · have f48 : (-2147483648) ≤ σ 12 13 ∧ σ 12 13 ≤ 2147483647 := zf B hb (t := 12) (f := 13) (by decide +kernel)
            refine And.intro (fun (c49 : sm = 0) => ?_) (fun (c50 : ¬ sm = 0) => ?_)
            · refine And.intro (fun (c51 : (σ 12 13) ≤ 2) => ?_) (fun (c52 : 2 < (σ 12 13)) => ?_)
              · refine And.intro (fun _ => ?_) (fun (q : ¬ sm = 0) => (by exfalso; omega))
                refine And.intro (show 0 ≤ 2 ∧ 2 ≤ 4 from by omega) ?_
                first
                | (exfalso; omega)
                | exact hK _ (zfr_up hf (by decide)) (show (p0 ≤ σ 12 4 ∧ (2 = 0 ∨ 2 = 4)) ∨ (p0 + 1 ≤ σ 12 4 ∧ 1 ≤ 2 ∧ 2 ≤ 4) from by omega)
              · refine And.intro (show 0 ≤ 4 ∧ 4 ≤ 4 from by omega) ?_
                first
                | (exfalso; omega)
                | exact hK _ (zfr_up hf (by decide)) (show (p0 ≤ σ 12 4 ∧ (4 = 0 ∨ 4 = 4)) ∨ (p0 + 1 ≤ σ 12 4 ∧ 1 ≤ 4 ∧ 4 ≤ 4) from by omega)
            · refine And.intro (fun (c53 : (σ 12 13) ≤ 7) => ?_) (fun (c54 : 7 < (σ 12 13)) => ?_)
              · refine And.intro (fun (c55 : sm = 0) => ?_) (fun (c56 : ¬ sm = 0) => ?_)
                · refine And.intro (show 0 ≤ 2 ∧ 2 ≤ 4 from by omega) ?_
                  first
                  | (exfalso; omega)
                  | exact hK _ (zfr_up hf (by decide)) (show (p0 ≤ σ 12 4 ∧ (2 = 0 ∨ 2 = 4)) ∨ (p0 + 1 ≤ σ 12 4 ∧ 1 ≤ 2 ∧ 2 ≤ 4) from by omega)
                · refine And.intro (show 0 ≤ 1 ∧ 1 ≤ 4 from by omega) ?_
                  first
                  | (exfalso; omega)
                  | exact hK _ (zfr_up hf (by decide)) (show (p0 ≤ σ 12 4 ∧ (1 = 0 ∨ 1 = 4)) ∨ (p0 + 1 ≤ σ 12 4 ∧ 1 ≤ 1 ∧ 1 ≤ 4) from by omega)
              · refine And.intro (show 0 ≤ 4 ∧ 4 ≤ 4 from by omega) ?_
                first
                | (exfalso; omega)
                | exact hK _ (zfr_up hf (by decide)) (show (p0 ≤ σ 12 4 ∧ (4 = 0 ∨ 4 = 4)) ∨ (p0 + 1 ≤ σ 12 4 ∧ 1 ≤ 4 ∧ 4 ≤ 4) from by omega)
        · refine And.intro (show 0 ≤ 1 ∧ 1 ≤ 1 from by omega) ?_
          refine And.intro (fun _ => ?_) (fun (q : 1 = 0) => absurd q (by decide))
          first
          | (exfalso; omega)
          | (show zG E gJ1 md271 w gm_271 201 [(0, .inr (.inl 12)), (2, .inl sm), (3, .inl al)] σ K; exact z_sk3a B (fun al2 σ2 a0 a1 a2 a3 a4 a5 a6 a7 => ih al2 σ2 (by omega) a1 a2 a3 a4 a5 a6 a7) hf (by omega) (by omega) h1 h2 h3 h4 h5)
theorem z_sk1a (B : zB E) {σ0 : vS} {p0 : Int} (hK : ∀ σ : vS, zfr [12] σ0 σ → ((p0 ≤ σ 12 4 ∧ (σ 12 11 = 0 ∨ σ 12 11 = 4)) ∨ (p0 + 1 ≤ σ 12 4 ∧ 1 ≤ σ 12 11 ∧ σ 12 11 ≤ 4)) → K none σ) : ∀ (m : Nat) (σ : vS), 940 - σ 12 4 < (m : Int) → zfr [12] σ0 σ → p0 ≤ σ 12 4 → zG E gJ1 md271 w gm_271 0 [(0, .inr (.inl 12))] σ K := by
  intro m
  induction m with
  | zero =>
    intro σ hm hf hq
    refine zbd (fun hb => ?_)
    have f : 0 ≤ σ 12 4 ∧ σ 12 4 ≤ 940 := zf B hb (t := 12) (f := 4) (by decide +kernel)
    omega
  | succ m ih =>
    intro σ hm hf hq
    have o0 := vand_255 (σ 51 (σ 12 4))
    have o1 := vand_rg (σ 51 (σ 12 4)) 255
    refine zbd (fun hb => zgo B zS_nil [] [(0, [0]), (181, [0, 2, 3]), (201, [0, 2, 3])] (fun m => Nat.beq m.2.2.2.2.2.1 0) (by decide +kernel) ?_)
    have f1 : 0 ≤ σ 12 4 ∧ σ 12 4 ≤ 940 := zf B hb (t := 12) (f := 4) (by decide +kernel)
    have f2 : 0 ≤ σ 12 3 ∧ σ 12 3 ≤ 940 := zf B hb (t := 12) (f := 3) (by decide +kernel)
    refine And.intro (fun (c3 : (σ 12 3) ≤ (σ 12 4)) => ?_) (fun (c4 : (σ 12 4) < (σ 12 3)) => ?_)
    · refine And.intro (fun (q : (-1) = 32) => absurd q (by decide)) (fun _ => ?_)
      refine And.intro (fun _ => ?_) (fun (q : (σ 12 4) < (σ 12 3)) => (by exfalso; omega))
      refine And.intro (fun _ => ?_) (fun (q : (-1) = 10) => absurd q (by decide))
      refine And.intro (show 0 ≤ (σ 12 4) ∧ (σ 12 4) ≤ 940 from by omega) ?_
      refine And.intro (show Int.negSucc 2147483647 ≤ 0 ∧ 0 ≤ 2147483647 from rgm (by omega)) ?_
      have f5 : 0 ≤ σ 12 5 ∧ σ 12 5 ≤ 940 := zf B hb (t := 12) (f := 5) (by decide +kernel)
      refine And.intro (fun (c6 : (σ 12 3) ≤ (σ 12 5)) => ?_) (fun (c7 : (σ 12 5) < (σ 12 3)) => ?_)
      · refine And.intro (fun _ => ?_) (fun (q : (σ 12 4) < (σ 12 3)) => (by exfalso; omega))
        refine And.intro (fun (q : 0 ≤ (-1)) => absurd q (by decide)) (fun _ => ?_)
        refine And.intro (show 0 ≤ 0 ∧ 0 ≤ 4 from by omega) ?_
        first
        | (exfalso; omega)
        | exact hK _ (zfr_up (zfr_up (zfr_up hf (by decide)) (by decide)) (by decide)) (show (p0 ≤ σ 12 4 ∧ (0 = 0 ∨ 0 = 4)) ∨ (p0 + 1 ≤ σ 12 4 ∧ 1 ≤ 0 ∧ 0 ≤ 4) from by omega)
      · refine And.intro (fun (c8 : (σ 12 4) < (σ 12 5)) => ?_) (fun (c9 : (σ 12 5) ≤ (σ 12 4)) => ?_)
        · refine And.intro (fun _ => ?_) (fun (q : (σ 12 4) < (σ 12 3)) => (by exfalso; omega))
          refine And.intro (fun (q : 0 ≤ (-1)) => absurd q (by decide)) (fun _ => ?_)
          refine And.intro (show 0 ≤ 0 ∧ 0 ≤ 4 from by omega) ?_
          first
          | (exfalso; omega)
          | exact hK _ (zfr_up (zfr_up (zfr_up hf (by decide)) (by decide)) (by decide)) (show (p0 ≤ σ 12 4 ∧ (0 = 0 ∨ 0 = 4)) ∨ (p0 + 1 ≤ σ 12 4 ∧ 1 ≤ 0 ∧ 0 ≤ 4) from by omega)
        · refine And.intro (show 0 ≤ (σ 12 5) ∧ (σ 12 5) ≤ 940 from by omega) ?_
          refine And.intro (show 0 ≤ 4 ∧ 4 ≤ 4 from by omega) ?_
          first
          | (exfalso; omega)
          | exact hK _ (zfr_up (zfr_up (zfr_up (zfr_up hf (by decide)) (by decide)) (by decide)) (by decide)) (show (p0 ≤ σ 12 4 ∧ (4 = 0 ∨ 4 = 4)) ∨ (p0 + 1 ≤ σ 12 4 ∧ 1 ≤ 4 ∧ 4 ≤ 4) from by omega)
    · refine And.intro (show 0 ≤ (σ 12 4) ∧ (σ 12 4) < 940 from by omega) ?_
      refine And.intro (fun (c10 : (vand (σ 51 (σ 12 4)) 255) = 32) => ?_) (fun (c11 : ¬ (vand (σ 51 (σ 12 4)) 255) = 32) => ?_)
      · refine And.intro (show -2147483648 ≤ ((σ 12 4) + 1) ∧ ((σ 12 4) + 1) ≤ 2147483647 from by omega) ?_
        refine And.intro (show 0 ≤ ((σ 12 4) + 1) ∧ ((σ 12 4) + 1) ≤ 940 from by omega) ?_
        first
        | (exfalso; omega)
        | (show zG E gJ1 md271 w gm_271 0 [(0, .inr (.inl 12))] (vup σ 12 4 ((σ 12 4) + 1)) K; exact ih _ (show 940 - ((σ 12 4) + 1) < (m : Int) from by omega) (zfr_up hf (by decide)) (show p0 ≤ (σ 12 4) + 1 from by omega))
      · refine And.intro (fun (q : (σ 12 3) ≤ (σ 12 4)) => (by exfalso; omega)) (fun _ => ?_)
        refine And.intro (show 0 ≤ (σ 12 4) ∧ (σ 12 4) < 940 from by omega) ?_
        refine And.intro (fun (c12 : ¬ (vand (σ 51 (σ 12 4)) 255) = 10) => ?_) (fun (c13 : (vand (σ 51 (σ 12 4)) 255) = 10) => ?_)
        · refine And.intro (show 0 ≤ (σ 12 4) ∧ (σ 12 4) ≤ 940 from by omega) ?_
          refine And.intro (show Int.negSucc 2147483647 ≤ 0 ∧ 0 ≤ 2147483647 from rgm (by omega)) ?_
          have f14 : 0 ≤ σ 12 5 ∧ σ 12 5 ≤ 940 := zf B hb (t := 12) (f := 5) (by decide +kernel)
          refine And.intro (fun (c15 : (σ 12 3) ≤ (σ 12 5)) => ?_) (fun (c16 : (σ 12 5) < (σ 12 3)) => ?_)
          · refine And.intro (fun (q : (σ 12 3) ≤ (σ 12 4)) => (by exfalso; omega)) (fun _ => ?_)
            refine And.intro (show 0 ≤ (σ 12 4) ∧ (σ 12 4) < 940 from by omega) ?_
            refine And.intro (fun (c17 : 0 ≤ (vand (σ 51 (σ 12 4)) 255)) => ?_) (fun (c18 : (vand (σ 51 (σ 12 4)) 255) < 0) => ?_)
            · refine And.intro (fun (c19 : (vand (σ 51 (σ 12 4)) 255) < 97) => ?_) (fun (c20 : 97 ≤ (vand (σ 51 (σ 12 4)) 255)) => ?_)
              · refine And.intro (show 0 ≤ 0 ∧ 0 ≤ 1 from by omega) ?_
                refine And.intro (fun (q : ¬ 0 = 0) => absurd q (by decide)) (fun _ => ?_)
                refine And.intro (fun (c21 : (vand (σ 51 (σ 12 4)) 255) < 48) => ?_) (fun (c22 : 48 ≤ (vand (σ 51 (σ 12 4)) 255)) => ?_)
                · refine And.intro (show 0 ≤ 0 ∧ 0 ≤ 1 from by omega) ?_
                  refine And.intro (fun (q : ¬ 0 = 0) => absurd q (by decide)) (fun _ => ?_)
                  refine And.intro (fun (q : (vand (σ 51 (σ 12 4)) 255) = 59) => (by exfalso; omega)) (fun _ => ?_)
                  refine And.intro (fun (c23 : (vand (σ 51 (σ 12 4)) 255) = 40) => ?_) (fun (c24 : ¬ (vand (σ 51 (σ 12 4)) 255) = 40) => ?_)
                  · refine And.intro (show 0 ≤ 3 ∧ 3 ≤ 4 from by omega) ?_
                    refine And.intro (show Int.negSucc 2147483647 ≤ (vand (σ 51 (σ 12 4)) 255) ∧ (vand (σ 51 (σ 12 4)) 255) ≤ 2147483647 from rgm (by omega)) ?_
                    refine And.intro (show -2147483648 ≤ ((σ 12 4) + 1) ∧ ((σ 12 4) + 1) ≤ 2147483647 from by omega) ?_
                    refine And.intro (show 0 ≤ ((σ 12 4) + 1) ∧ ((σ 12 4) + 1) ≤ 940 from by omega) ?_
                    first
                    | (exfalso; omega)
                    | exact hK _ (zfr_up (zfr_up (zfr_up (zfr_up (zfr_up hf (by decide)) (by decide)) (by decide)) (by decide)) (by decide)) (show (p0 ≤ (σ 12 4) + 1 ∧ (3 = 0 ∨ 3 = 4)) ∨ (p0 + 1 ≤ (σ 12 4) + 1 ∧ 1 ≤ 3 ∧ 3 ≤ 4) from by omega)
                  · refine And.intro (fun (c25 : (vand (σ 51 (σ 12 4)) 255) = 41) => ?_) (fun (c26 : ¬ (vand (σ 51 (σ 12 4)) 255) = 41) => ?_)
                    · refine And.intro (show 0 ≤ 3 ∧ 3 ≤ 4 from by omega) ?_
                      refine And.intro (show Int.negSucc 2147483647 ≤ (vand (σ 51 (σ 12 4)) 255) ∧ (vand (σ 51 (σ 12 4)) 255) ≤ 2147483647 from rgm (by omega)) ?_
                      refine And.intro (show -2147483648 ≤ ((σ 12 4) + 1) ∧ ((σ 12 4) + 1) ≤ 2147483647 from by omega) ?_
                      refine And.intro (show 0 ≤ ((σ 12 4) + 1) ∧ ((σ 12 4) + 1) ≤ 940 from by omega) ?_
                      first
                      | (exfalso; omega)
                      | exact hK _ (zfr_up (zfr_up (zfr_up (zfr_up (zfr_up hf (by decide)) (by decide)) (by decide)) (by decide)) (by decide)) (show (p0 ≤ (σ 12 4) + 1 ∧ (3 = 0 ∨ 3 = 4)) ∨ (p0 + 1 ≤ (σ 12 4) + 1 ∧ 1 ≤ 3 ∧ 3 ≤ 4) from by omega)
                    · refine And.intro (fun _ => ?_) (fun (q : 60 ≤ (vand (σ 51 (σ 12 4)) 255)) => (by exfalso; omega))
                      refine And.intro (show 0 ≤ 4 ∧ 4 ≤ 4 from by omega) ?_
                      refine And.intro (show Int.negSucc 2147483647 ≤ (vand (σ 51 (σ 12 4)) 255) ∧ (vand (σ 51 (σ 12 4)) 255) ≤ 2147483647 from rgm (by omega)) ?_
                      refine And.intro (show -2147483648 ≤ ((σ 12 4) + 1) ∧ ((σ 12 4) + 1) ≤ 2147483647 from by omega) ?_
                      refine And.intro (show 0 ≤ ((σ 12 4) + 1) ∧ ((σ 12 4) + 1) ≤ 940 from by omega) ?_
                      first
                      | (exfalso; omega)
                      | exact hK _ (zfr_up (zfr_up (zfr_up (zfr_up (zfr_up hf (by decide)) (by decide)) (by decide)) (by decide)) (by decide)) (show (p0 ≤ (σ 12 4) + 1 ∧ (4 = 0 ∨ 4 = 4)) ∨ (p0 + 1 ≤ (σ 12 4) + 1 ∧ 1 ≤ 4 ∧ 4 ≤ 4) from by omega)
                · refine And.intro (fun (c27 : 57 < (vand (σ 51 (σ 12 4)) 255)) => ?_) (fun (c28 : (vand (σ 51 (σ 12 4)) 255) ≤ 57) => ?_)
                  · refine And.intro (show 0 ≤ 0 ∧ 0 ≤ 1 from by omega) ?_
                    refine And.intro (fun (q : ¬ 0 = 0) => absurd q (by decide)) (fun _ => ?_)
                    refine And.intro (fun (c29 : (vand (σ 51 (σ 12 4)) 255) = 59) => ?_) (fun (c30 : ¬ (vand (σ 51 (σ 12 4)) 255) = 59) => ?_)
                    · refine And.intro (show 0 ≤ 3 ∧ 3 ≤ 4 from by omega) ?_
                      refine And.intro (show Int.negSucc 2147483647 ≤ (vand (σ 51 (σ 12 4)) 255) ∧ (vand (σ 51 (σ 12 4)) 255) ≤ 2147483647 from rgm (by omega)) ?_
                      refine And.intro (show -2147483648 ≤ ((σ 12 4) + 1) ∧ ((σ 12 4) + 1) ≤ 2147483647 from by omega) ?_
                      refine And.intro (show 0 ≤ ((σ 12 4) + 1) ∧ ((σ 12 4) + 1) ≤ 940 from by omega) ?_
                      first
                      | (exfalso; omega)
                      | exact hK _ (zfr_up (zfr_up (zfr_up (zfr_up (zfr_up hf (by decide)) (by decide)) (by decide)) (by decide)) (by decide)) (show (p0 ≤ (σ 12 4) + 1 ∧ (3 = 0 ∨ 3 = 4)) ∨ (p0 + 1 ≤ (σ 12 4) + 1 ∧ 1 ≤ 3 ∧ 3 ≤ 4) from by omega)
                    · refine And.intro (fun (q : (vand (σ 51 (σ 12 4)) 255) = 40) => (by exfalso; omega)) (fun _ => ?_)
                      refine And.intro (fun (q : (vand (σ 51 (σ 12 4)) 255) = 41) => (by exfalso; omega)) (fun _ => ?_)
                      refine And.intro (fun (c31 : (vand (σ 51 (σ 12 4)) 255) < 60) => ?_) (fun (c32 : 60 ≤ (vand (σ 51 (σ 12 4)) 255)) => ?_)
                      · refine And.intro (show 0 ≤ 4 ∧ 4 ≤ 4 from by omega) ?_
                        refine And.intro (show Int.negSucc 2147483647 ≤ (vand (σ 51 (σ 12 4)) 255) ∧ (vand (σ 51 (σ 12 4)) 255) ≤ 2147483647 from rgm (by omega)) ?_
                        refine And.intro (show -2147483648 ≤ ((σ 12 4) + 1) ∧ ((σ 12 4) + 1) ≤ 2147483647 from by omega) ?_
                        refine And.intro (show 0 ≤ ((σ 12 4) + 1) ∧ ((σ 12 4) + 1) ≤ 940 from by omega) ?_
                        first
                        | (exfalso; omega)
                        | exact hK _ (zfr_up (zfr_up (zfr_up (zfr_up (zfr_up hf (by decide)) (by decide)) (by decide)) (by decide)) (by decide)) (show (p0 ≤ (σ 12 4) + 1 ∧ (4 = 0 ∨ 4 = 4)) ∨ (p0 + 1 ≤ (σ 12 4) + 1 ∧ 1 ≤ 4 ∧ 4 ≤ 4) from by omega)
                      · refine And.intro (fun (c33 : 62 < (vand (σ 51 (σ 12 4)) 255)) => ?_) (fun (c34 : (vand (σ 51 (σ 12 4)) 255) ≤ 62) => ?_)
                        · refine And.intro (show 0 ≤ 4 ∧ 4 ≤ 4 from by omega) ?_
                          refine And.intro (show Int.negSucc 2147483647 ≤ (vand (σ 51 (σ 12 4)) 255) ∧ (vand (σ 51 (σ 12 4)) 255) ≤ 2147483647 from rgm (by omega)) ?_
                          refine And.intro (show -2147483648 ≤ ((σ 12 4) + 1) ∧ ((σ 12 4) + 1) ≤ 2147483647 from by omega) ?_
                          refine And.intro (show 0 ≤ ((σ 12 4) + 1) ∧ ((σ 12 4) + 1) ≤ 940 from by omega) ?_
                          first
                          | (exfalso; omega)
                          | exact hK _ (zfr_up (zfr_up (zfr_up (zfr_up (zfr_up hf (by decide)) (by decide)) (by decide)) (by decide)) (by decide)) (show (p0 ≤ (σ 12 4) + 1 ∧ (4 = 0 ∨ 4 = 4)) ∨ (p0 + 1 ≤ (σ 12 4) + 1 ∧ 1 ≤ 4 ∧ 4 ≤ 4) from by omega)
                        · refine And.intro (show 0 ≤ 3 ∧ 3 ≤ 4 from by omega) ?_
                          refine And.intro (show Int.negSucc 2147483647 ≤ (vand (σ 51 (σ 12 4)) 255) ∧ (vand (σ 51 (σ 12 4)) 255) ≤ 2147483647 from rgm (by omega)) ?_
                          refine And.intro (show -2147483648 ≤ ((σ 12 4) + 1) ∧ ((σ 12 4) + 1) ≤ 2147483647 from by omega) ?_
                          refine And.intro (show 0 ≤ ((σ 12 4) + 1) ∧ ((σ 12 4) + 1) ≤ 940 from by omega) ?_
                          first
                          | (exfalso; omega)
                          | exact hK _ (zfr_up (zfr_up (zfr_up (zfr_up (zfr_up hf (by decide)) (by decide)) (by decide)) (by decide)) (by decide)) (show (p0 ≤ (σ 12 4) + 1 ∧ (3 = 0 ∨ 3 = 4)) ∨ (p0 + 1 ≤ (σ 12 4) + 1 ∧ 1 ≤ 3 ∧ 3 ≤ 4) from by omega)
                  · refine And.intro (show 0 ≤ 1 ∧ 1 ≤ 1 from by omega) ?_
                    refine And.intro (fun _ => ?_) (fun (q : 1 = 0) => absurd q (by decide))
                    refine And.intro (fun _ => ?_) (fun (q : 97 ≤ (vand (σ 51 (σ 12 4)) 255)) => (by exfalso; omega))
                    refine And.intro (show 0 ≤ 0 ∧ 0 ≤ 1 from by omega) ?_
                    refine And.intro (show Int.negSucc 2147483647 ≤ 0 ∧ 0 ≤ 2147483647 from rgm (by omega)) ?_
                    first
                    | (exfalso; omega)
                    | (show zG E gJ1 md271 w gm_271 181 [(0, .inr (.inl 12)), (2, .inl 0), (3, .inl 1)] (vup (vup (vup σ 12 12 (σ 12 4)) 12 13 0) 12 14 0) K; exact z_sk2a B hK 941 _ _ (show 940 - (σ 12 4) < ((941 : Nat) : Int) from by omega) (zfr_up (zfr_up (zfr_up hf (by decide)) (by decide)) (by decide)) (Or.inr (show p0 ≤ σ 12 4 ∧ σ 12 4 < σ 12 3 ∧ ((97 ≤ vand (σ 51 (σ 12 4)) 255 ∧ vand (σ 51 (σ 12 4)) 255 ≤ 122) ∨ (48 ≤ vand (σ 51 (σ 12 4)) 255 ∧ vand (σ 51 (σ 12 4)) 255 ≤ 57)) from by omega)) (show 0 ≤ 0 ∧ 0 ≤ σ 12 4 from by omega) (show 0 = 0 → 0 = 0 from fun q => by omega) (show 0 = 1 → 0 ≤ 0 ∧ 0 ≤ 74 from fun q => by omega) (by omega) (by omega))
              · refine And.intro (fun (c35 : 122 < (vand (σ 51 (σ 12 4)) 255)) => ?_) (fun (c36 : (vand (σ 51 (σ 12 4)) 255) ≤ 122) => ?_)
                · refine And.intro (show 0 ≤ 0 ∧ 0 ≤ 1 from by omega) ?_
                  refine And.intro (fun (q : ¬ 0 = 0) => absurd q (by decide)) (fun _ => ?_)
                  refine And.intro (fun (q : (vand (σ 51 (σ 12 4)) 255) < 48) => (by exfalso; omega)) (fun _ => ?_)
                  refine And.intro (fun _ => ?_) (fun (q : (vand (σ 51 (σ 12 4)) 255) ≤ 57) => (by exfalso; omega))
                  refine And.intro (show 0 ≤ 0 ∧ 0 ≤ 1 from by omega) ?_
                  refine And.intro (fun (q : ¬ 0 = 0) => absurd q (by decide)) (fun _ => ?_)
                  refine And.intro (fun (q : (vand (σ 51 (σ 12 4)) 255) = 59) => (by exfalso; omega)) (fun _ => ?_)
                  refine And.intro (fun (q : (vand (σ 51 (σ 12 4)) 255) = 40) => (by exfalso; omega)) (fun _ => ?_)
                  refine And.intro (fun (q : (vand (σ 51 (σ 12 4)) 255) = 41) => (by exfalso; omega)) (fun _ => ?_)
                  refine And.intro (fun (q : (vand (σ 51 (σ 12 4)) 255) < 60) => (by exfalso; omega)) (fun _ => ?_)
                  refine And.intro (fun _ => ?_) (fun (q : (vand (σ 51 (σ 12 4)) 255) ≤ 62) => (by exfalso; omega))
                  refine And.intro (show 0 ≤ 4 ∧ 4 ≤ 4 from by omega) ?_
                  refine And.intro (show Int.negSucc 2147483647 ≤ (vand (σ 51 (σ 12 4)) 255) ∧ (vand (σ 51 (σ 12 4)) 255) ≤ 2147483647 from rgm (by omega)) ?_
                  refine And.intro (show -2147483648 ≤ ((σ 12 4) + 1) ∧ ((σ 12 4) + 1) ≤ 2147483647 from by omega) ?_
                  refine And.intro (show 0 ≤ ((σ 12 4) + 1) ∧ ((σ 12 4) + 1) ≤ 940 from by omega) ?_
                  first
                  | (exfalso; omega)
                  | exact hK _ (zfr_up (zfr_up (zfr_up (zfr_up (zfr_up hf (by decide)) (by decide)) (by decide)) (by decide)) (by decide)) (show (p0 ≤ (σ 12 4) + 1 ∧ (4 = 0 ∨ 4 = 4)) ∨ (p0 + 1 ≤ (σ 12 4) + 1 ∧ 1 ≤ 4 ∧ 4 ≤ 4) from by omega)
                · refine And.intro (show 0 ≤ 1 ∧ 1 ≤ 1 from by omega) ?_
                  refine And.intro (fun _ => ?_) (fun (q : 1 = 0) => absurd q (by decide))
                  refine And.intro (fun (q : (vand (σ 51 (σ 12 4)) 255) < 97) => (by exfalso; omega)) (fun _ => ?_)
                  refine And.intro (fun (q : 122 < (vand (σ 51 (σ 12 4)) 255)) => (by exfalso; omega)) (fun _ => ?_)
                  refine And.intro (show 0 ≤ 1 ∧ 1 ≤ 1 from by omega) ?_
                  refine And.intro (show Int.negSucc 2147483647 ≤ 0 ∧ 0 ≤ 2147483647 from rgm (by omega)) ?_
                  first
                  | (exfalso; omega)
                  | (show zG E gJ1 md271 w gm_271 181 [(0, .inr (.inl 12)), (2, .inl 1), (3, .inl 1)] (vup (vup (vup σ 12 12 (σ 12 4)) 12 13 0) 12 14 0) K; exact z_sk2a B hK 941 _ _ (show 940 - (σ 12 4) < ((941 : Nat) : Int) from by omega) (zfr_up (zfr_up (zfr_up hf (by decide)) (by decide)) (by decide)) (Or.inr (show p0 ≤ σ 12 4 ∧ σ 12 4 < σ 12 3 ∧ ((97 ≤ vand (σ 51 (σ 12 4)) 255 ∧ vand (σ 51 (σ 12 4)) 255 ≤ 122) ∨ (48 ≤ vand (σ 51 (σ 12 4)) 255 ∧ vand (σ 51 (σ 12 4)) 255 ≤ 57)) from by omega)) (show 0 ≤ 0 ∧ 0 ≤ σ 12 4 from by omega) (show 0 = 0 → 0 = 0 from fun q => by omega) (show 0 = 1 → 0 ≤ 0 ∧ 0 ≤ 74 from fun q => by omega) (by omega) (by omega))
            · refine And.intro (show 0 ≤ 0 ∧ 0 ≤ 4 from by omega) ?_
              first
              | (exfalso; omega)
              | exact hK _ (zfr_up (zfr_up (zfr_up hf (by decide)) (by decide)) (by decide)) (show (p0 ≤ σ 12 4 ∧ (0 = 0 ∨ 0 = 4)) ∨ (p0 + 1 ≤ σ 12 4 ∧ 1 ≤ 0 ∧ 0 ≤ 4) from by omega)
          · refine And.intro (fun (c37 : (σ 12 4) < (σ 12 5)) => ?_) (fun (c38 : (σ 12 5) ≤ (σ 12 4)) => ?_)
            · refine And.intro (fun (q : (σ 12 3) ≤ (σ 12 4)) => (by exfalso; omega)) (fun _ => ?_)
              refine And.intro (show 0 ≤ (σ 12 4) ∧ (σ 12 4) < 940 from by omega) ?_
              refine And.intro (fun (c39 : 0 ≤ (vand (σ 51 (σ 12 4)) 255)) => ?_) (fun (c40 : (vand (σ 51 (σ 12 4)) 255) < 0) => ?_)
              · refine And.intro (fun (c41 : (vand (σ 51 (σ 12 4)) 255) < 97) => ?_) (fun (c42 : 97 ≤ (vand (σ 51 (σ 12 4)) 255)) => ?_)
                · refine And.intro (show 0 ≤ 0 ∧ 0 ≤ 1 from by omega) ?_
                  refine And.intro (fun (q : ¬ 0 = 0) => absurd q (by decide)) (fun _ => ?_)
                  refine And.intro (fun (c43 : (vand (σ 51 (σ 12 4)) 255) < 48) => ?_) (fun (c44 : 48 ≤ (vand (σ 51 (σ 12 4)) 255)) => ?_)
                  · refine And.intro (show 0 ≤ 0 ∧ 0 ≤ 1 from by omega) ?_
                    refine And.intro (fun (q : ¬ 0 = 0) => absurd q (by decide)) (fun _ => ?_)
                    refine And.intro (fun (q : (vand (σ 51 (σ 12 4)) 255) = 59) => (by exfalso; omega)) (fun _ => ?_)
                    refine And.intro (fun (c45 : (vand (σ 51 (σ 12 4)) 255) = 40) => ?_) (fun (c46 : ¬ (vand (σ 51 (σ 12 4)) 255) = 40) => ?_)
                    · refine And.intro (show 0 ≤ 3 ∧ 3 ≤ 4 from by omega) ?_
                      refine And.intro (show Int.negSucc 2147483647 ≤ (vand (σ 51 (σ 12 4)) 255) ∧ (vand (σ 51 (σ 12 4)) 255) ≤ 2147483647 from rgm (by omega)) ?_
                      refine And.intro (show -2147483648 ≤ ((σ 12 4) + 1) ∧ ((σ 12 4) + 1) ≤ 2147483647 from by omega) ?_
                      refine And.intro (show 0 ≤ ((σ 12 4) + 1) ∧ ((σ 12 4) + 1) ≤ 940 from by omega) ?_
                      first
                      | (exfalso; omega)
                      | exact hK _ (zfr_up (zfr_up (zfr_up (zfr_up (zfr_up hf (by decide)) (by decide)) (by decide)) (by decide)) (by decide)) (show (p0 ≤ (σ 12 4) + 1 ∧ (3 = 0 ∨ 3 = 4)) ∨ (p0 + 1 ≤ (σ 12 4) + 1 ∧ 1 ≤ 3 ∧ 3 ≤ 4) from by omega)
                    · refine And.intro (fun (c47 : (vand (σ 51 (σ 12 4)) 255) = 41) => ?_) (fun (c48 : ¬ (vand (σ 51 (σ 12 4)) 255) = 41) => ?_)
                      · refine And.intro (show 0 ≤ 3 ∧ 3 ≤ 4 from by omega) ?_
                        refine And.intro (show Int.negSucc 2147483647 ≤ (vand (σ 51 (σ 12 4)) 255) ∧ (vand (σ 51 (σ 12 4)) 255) ≤ 2147483647 from rgm (by omega)) ?_
                        refine And.intro (show -2147483648 ≤ ((σ 12 4) + 1) ∧ ((σ 12 4) + 1) ≤ 2147483647 from by omega) ?_
                        refine And.intro (show 0 ≤ ((σ 12 4) + 1) ∧ ((σ 12 4) + 1) ≤ 940 from by omega) ?_
                        first
                        | (exfalso; omega)
                        | exact hK _ (zfr_up (zfr_up (zfr_up (zfr_up (zfr_up hf (by decide)) (by decide)) (by decide)) (by decide)) (by decide)) (show (p0 ≤ (σ 12 4) + 1 ∧ (3 = 0 ∨ 3 = 4)) ∨ (p0 + 1 ≤ (σ 12 4) + 1 ∧ 1 ≤ 3 ∧ 3 ≤ 4) from by omega)
                      · refine And.intro (fun _ => ?_) (fun (q : 60 ≤ (vand (σ 51 (σ 12 4)) 255)) => (by exfalso; omega))
                        refine And.intro (show 0 ≤ 4 ∧ 4 ≤ 4 from by omega) ?_
                        refine And.intro (show Int.negSucc 2147483647 ≤ (vand (σ 51 (σ 12 4)) 255) ∧ (vand (σ 51 (σ 12 4)) 255) ≤ 2147483647 from rgm (by omega)) ?_
                        refine And.intro (show -2147483648 ≤ ((σ 12 4) + 1) ∧ ((σ 12 4) + 1) ≤ 2147483647 from by omega) ?_
                        refine And.intro (show 0 ≤ ((σ 12 4) + 1) ∧ ((σ 12 4) + 1) ≤ 940 from by omega) ?_
                        first
                        | (exfalso; omega)
                        | exact hK _ (zfr_up (zfr_up (zfr_up (zfr_up (zfr_up hf (by decide)) (by decide)) (by decide)) (by decide)) (by decide)) (show (p0 ≤ (σ 12 4) + 1 ∧ (4 = 0 ∨ 4 = 4)) ∨ (p0 + 1 ≤ (σ 12 4) + 1 ∧ 1 ≤ 4 ∧ 4 ≤ 4) from by omega)
                  · refine And.intro (fun (c49 : 57 < (vand (σ 51 (σ 12 4)) 255)) => ?_) (fun (c50 : (vand (σ 51 (σ 12 4)) 255) ≤ 57) => ?_)
                    · refine And.intro (show 0 ≤ 0 ∧ 0 ≤ 1 from by omega) ?_
                      refine And.intro (fun (q : ¬ 0 = 0) => absurd q (by decide)) (fun _ => ?_)
                      refine And.intro (fun (c51 : (vand (σ 51 (σ 12 4)) 255) = 59) => ?_) (fun (c52 : ¬ (vand (σ 51 (σ 12 4)) 255) = 59) => ?_)
                      · refine And.intro (show 0 ≤ 3 ∧ 3 ≤ 4 from by omega) ?_
                        refine And.intro (show Int.negSucc 2147483647 ≤ (vand (σ 51 (σ 12 4)) 255) ∧ (vand (σ 51 (σ 12 4)) 255) ≤ 2147483647 from rgm (by omega)) ?_
                        refine And.intro (show -2147483648 ≤ ((σ 12 4) + 1) ∧ ((σ 12 4) + 1) ≤ 2147483647 from by omega) ?_
                        refine And.intro (show 0 ≤ ((σ 12 4) + 1) ∧ ((σ 12 4) + 1) ≤ 940 from by omega) ?_
                        first
                        | (exfalso; omega)
                        | exact hK _ (zfr_up (zfr_up (zfr_up (zfr_up (zfr_up hf (by decide)) (by decide)) (by decide)) (by decide)) (by decide)) (show (p0 ≤ (σ 12 4) + 1 ∧ (3 = 0 ∨ 3 = 4)) ∨ (p0 + 1 ≤ (σ 12 4) + 1 ∧ 1 ≤ 3 ∧ 3 ≤ 4) from by omega)
                      · refine And.intro (fun (q : (vand (σ 51 (σ 12 4)) 255) = 40) => (by exfalso; omega)) (fun _ => ?_)
                        refine And.intro (fun (q : (vand (σ 51 (σ 12 4)) 255) = 41) => (by exfalso; omega)) (fun _ => ?_)
                        refine And.intro (fun (c53 : (vand (σ 51 (σ 12 4)) 255) < 60) => ?_) (fun (c54 : 60 ≤ (vand (σ 51 (σ 12 4)) 255)) => ?_)
                        · refine And.intro (show 0 ≤ 4 ∧ 4 ≤ 4 from by omega) ?_
                          refine And.intro (show Int.negSucc 2147483647 ≤ (vand (σ 51 (σ 12 4)) 255) ∧ (vand (σ 51 (σ 12 4)) 255) ≤ 2147483647 from rgm (by omega)) ?_
                          refine And.intro (show -2147483648 ≤ ((σ 12 4) + 1) ∧ ((σ 12 4) + 1) ≤ 2147483647 from by omega) ?_
                          refine And.intro (show 0 ≤ ((σ 12 4) + 1) ∧ ((σ 12 4) + 1) ≤ 940 from by omega) ?_
                          first
                          | (exfalso; omega)
                          | exact hK _ (zfr_up (zfr_up (zfr_up (zfr_up (zfr_up hf (by decide)) (by decide)) (by decide)) (by decide)) (by decide)) (show (p0 ≤ (σ 12 4) + 1 ∧ (4 = 0 ∨ 4 = 4)) ∨ (p0 + 1 ≤ (σ 12 4) + 1 ∧ 1 ≤ 4 ∧ 4 ≤ 4) from by omega)
                        · refine And.intro (fun (c55 : 62 < (vand (σ 51 (σ 12 4)) 255)) => ?_) (fun (c56 : (vand (σ 51 (σ 12 4)) 255) ≤ 62) => ?_)
                          · refine And.intro (show 0 ≤ 4 ∧ 4 ≤ 4 from by omega) ?_
                            refine And.intro (show Int.negSucc 2147483647 ≤ (vand (σ 51 (σ 12 4)) 255) ∧ (vand (σ 51 (σ 12 4)) 255) ≤ 2147483647 from rgm (by omega)) ?_
                            refine And.intro (show -2147483648 ≤ ((σ 12 4) + 1) ∧ ((σ 12 4) + 1) ≤ 2147483647 from by omega) ?_
                            refine And.intro (show 0 ≤ ((σ 12 4) + 1) ∧ ((σ 12 4) + 1) ≤ 940 from by omega) ?_
                            first
                            | (exfalso; omega)
                            | exact hK _ (zfr_up (zfr_up (zfr_up (zfr_up (zfr_up hf (by decide)) (by decide)) (by decide)) (by decide)) (by decide)) (show (p0 ≤ (σ 12 4) + 1 ∧ (4 = 0 ∨ 4 = 4)) ∨ (p0 + 1 ≤ (σ 12 4) + 1 ∧ 1 ≤ 4 ∧ 4 ≤ 4) from by omega)
                          · refine And.intro (show 0 ≤ 3 ∧ 3 ≤ 4 from by omega) ?_
                            refine And.intro (show Int.negSucc 2147483647 ≤ (vand (σ 51 (σ 12 4)) 255) ∧ (vand (σ 51 (σ 12 4)) 255) ≤ 2147483647 from rgm (by omega)) ?_
                            refine And.intro (show -2147483648 ≤ ((σ 12 4) + 1) ∧ ((σ 12 4) + 1) ≤ 2147483647 from by omega) ?_
                            refine And.intro (show 0 ≤ ((σ 12 4) + 1) ∧ ((σ 12 4) + 1) ≤ 940 from by omega) ?_
                            first
                            | (exfalso; omega)
                            | exact hK _ (zfr_up (zfr_up (zfr_up (zfr_up (zfr_up hf (by decide)) (by decide)) (by decide)) (by decide)) (by decide)) (show (p0 ≤ (σ 12 4) + 1 ∧ (3 = 0 ∨ 3 = 4)) ∨ (p0 + 1 ≤ (σ 12 4) + 1 ∧ 1 ≤ 3 ∧ 3 ≤ 4) from by omega)
                    · refine And.intro (show 0 ≤ 1 ∧ 1 ≤ 1 from by omega) ?_
                      refine And.intro (fun _ => ?_) (fun (q : 1 = 0) => absurd q (by decide))
                      refine And.intro (fun _ => ?_) (fun (q : 97 ≤ (vand (σ 51 (σ 12 4)) 255)) => (by exfalso; omega))
                      refine And.intro (show 0 ≤ 0 ∧ 0 ≤ 1 from by omega) ?_
                      refine And.intro (show Int.negSucc 2147483647 ≤ 0 ∧ 0 ≤ 2147483647 from rgm (by omega)) ?_
                      first
                      | (exfalso; omega)
                      | (show zG E gJ1 md271 w gm_271 181 [(0, .inr (.inl 12)), (2, .inl 0), (3, .inl 1)] (vup (vup (vup σ 12 12 (σ 12 4)) 12 13 0) 12 14 0) K; exact z_sk2a B hK 941 _ _ (show 940 - (σ 12 4) < ((941 : Nat) : Int) from by omega) (zfr_up (zfr_up (zfr_up hf (by decide)) (by decide)) (by decide)) (Or.inr (show p0 ≤ σ 12 4 ∧ σ 12 4 < σ 12 3 ∧ ((97 ≤ vand (σ 51 (σ 12 4)) 255 ∧ vand (σ 51 (σ 12 4)) 255 ≤ 122) ∨ (48 ≤ vand (σ 51 (σ 12 4)) 255 ∧ vand (σ 51 (σ 12 4)) 255 ≤ 57)) from by omega)) (show 0 ≤ 0 ∧ 0 ≤ σ 12 4 from by omega) (show 0 = 0 → 0 = 0 from fun q => by omega) (show 0 = 1 → 0 ≤ 0 ∧ 0 ≤ 74 from fun q => by omega) (by omega) (by omega))
                · refine And.intro (fun (c57 : 122 < (vand (σ 51 (σ 12 4)) 255)) => ?_) (fun (c58 : (vand (σ 51 (σ 12 4)) 255) ≤ 122) => ?_)
                  · refine And.intro (show 0 ≤ 0 ∧ 0 ≤ 1 from by omega) ?_
                    refine And.intro (fun (q : ¬ 0 = 0) => absurd q (by decide)) (fun _ => ?_)
                    refine And.intro (fun (q : (vand (σ 51 (σ 12 4)) 255) < 48) => (by exfalso; omega)) (fun _ => ?_)
                    refine And.intro (fun _ => ?_) (fun (q : (vand (σ 51 (σ 12 4)) 255) ≤ 57) => (by exfalso; omega))
                    refine And.intro (show 0 ≤ 0 ∧ 0 ≤ 1 from by omega) ?_
                    refine And.intro (fun (q : ¬ 0 = 0) => absurd q (by decide)) (fun _ => ?_)
                    refine And.intro (fun (q : (vand (σ 51 (σ 12 4)) 255) = 59) => (by exfalso; omega)) (fun _ => ?_)
                    refine And.intro (fun (q : (vand (σ 51 (σ 12 4)) 255) = 40) => (by exfalso; omega)) (fun _ => ?_)
                    refine And.intro (fun (q : (vand (σ 51 (σ 12 4)) 255) = 41) => (by exfalso; omega)) (fun _ => ?_)
                    refine And.intro (fun (q : (vand (σ 51 (σ 12 4)) 255) < 60) => (by exfalso; omega)) (fun _ => ?_)
                    refine And.intro (fun _ => ?_) (fun (q : (vand (σ 51 (σ 12 4)) 255) ≤ 62) => (by exfalso; omega))
                    refine And.intro (show 0 ≤ 4 ∧ 4 ≤ 4 from by omega) ?_
                    refine And.intro (show Int.negSucc 2147483647 ≤ (vand (σ 51 (σ 12 4)) 255) ∧ (vand (σ 51 (σ 12 4)) 255) ≤ 2147483647 from rgm (by omega)) ?_
                    refine And.intro (show -2147483648 ≤ ((σ 12 4) + 1) ∧ ((σ 12 4) + 1) ≤ 2147483647 from by omega) ?_
                    refine And.intro (show 0 ≤ ((σ 12 4) + 1) ∧ ((σ 12 4) + 1) ≤ 940 from by omega) ?_
                    first
                    | (exfalso; omega)
                    | exact hK _ (zfr_up (zfr_up (zfr_up (zfr_up (zfr_up hf (by decide)) (by decide)) (by decide)) (by decide)) (by decide)) (show (p0 ≤ (σ 12 4) + 1 ∧ (4 = 0 ∨ 4 = 4)) ∨ (p0 + 1 ≤ (σ 12 4) + 1 ∧ 1 ≤ 4 ∧ 4 ≤ 4) from by omega)
                  · refine And.intro (show 0 ≤ 1 ∧ 1 ≤ 1 from by omega) ?_
                    refine And.intro (fun _ => ?_) (fun (q : 1 = 0) => absurd q (by decide))
                    refine And.intro (fun (q : (vand (σ 51 (σ 12 4)) 255) < 97) => (by exfalso; omega)) (fun _ => ?_)
                    refine And.intro (fun (q : 122 < (vand (σ 51 (σ 12 4)) 255)) => (by exfalso; omega)) (fun _ => ?_)
                    refine And.intro (show 0 ≤ 1 ∧ 1 ≤ 1 from by omega) ?_
                    refine And.intro (show Int.negSucc 2147483647 ≤ 0 ∧ 0 ≤ 2147483647 from rgm (by omega)) ?_
                    first
                    | (exfalso; omega)
                    | (show zG E gJ1 md271 w gm_271 181 [(0, .inr (.inl 12)), (2, .inl 1), (3, .inl 1)] (vup (vup (vup σ 12 12 (σ 12 4)) 12 13 0) 12 14 0) K; exact z_sk2a B hK 941 _ _ (show 940 - (σ 12 4) < ((941 : Nat) : Int) from by omega) (zfr_up (zfr_up (zfr_up hf (by decide)) (by decide)) (by decide)) (Or.inr (show p0 ≤ σ 12 4 ∧ σ 12 4 < σ 12 3 ∧ ((97 ≤ vand (σ 51 (σ 12 4)) 255 ∧ vand (σ 51 (σ 12 4)) 255 ≤ 122) ∨ (48 ≤ vand (σ 51 (σ 12 4)) 255 ∧ vand (σ 51 (σ 12 4)) 255 ≤ 57)) from by omega)) (show 0 ≤ 0 ∧ 0 ≤ σ 12 4 from by omega) (show 0 = 0 → 0 = 0 from fun q => by omega) (show 0 = 1 → 0 ≤ 0 ∧ 0 ≤ 74 from fun q => by omega) (by omega) (by omega))
              · refine And.intro (show 0 ≤ 0 ∧ 0 ≤ 4 from by omega) ?_
                first
                | (exfalso; omega)
                | exact hK _ (zfr_up (zfr_up (zfr_up hf (by decide)) (by decide)) (by decide)) (show (p0 ≤ σ 12 4 ∧ (0 = 0 ∨ 0 = 4)) ∨ (p0 + 1 ≤ σ 12 4 ∧ 1 ≤ 0 ∧ 0 ≤ 4) from by omega)
            · refine And.intro (show 0 ≤ (σ 12 5) ∧ (σ 12 5) ≤ 940 from by omega) ?_
              refine And.intro (show 0 ≤ 4 ∧ 4 ≤ 4 from by omega) ?_
              first
              | (exfalso; omega)
              | exact hK _ (zfr_up (zfr_up (zfr_up (zfr_up hf (by decide)) (by decide)) (by decide)) (by decide)) (show (p0 ≤ σ 12 4 ∧ (4 = 0 ∨ 4 = 4)) ∨ (p0 + 1 ≤ σ 12 4 ∧ 1 ≤ 4 ∧ 4 ≤ 4) from by omega)
        · refine And.intro (show -2147483648 ≤ ((σ 12 4) + 1) ∧ ((σ 12 4) + 1) ≤ 2147483647 from by omega) ?_
          refine And.intro (show 0 ≤ ((σ 12 4) + 1) ∧ ((σ 12 4) + 1) ≤ 940 from by omega) ?_
          first
          | (exfalso; omega)
          | (show zG E gJ1 md271 w gm_271 0 [(0, .inr (.inl 12))] (vup σ 12 4 ((σ 12 4) + 1)) K; exact ih _ (show 940 - ((σ 12 4) + 1) < (m : Int) from by omega) (zfr_up hf (by decide)) (show p0 ≤ (σ 12 4) + 1 from by omega))
theorem zc_271a (B : zB E) (I : zin E) : zH E gJ1 (gm_271, 4) gc_271_0 := by
  refine z_holds2 B I ?_ (fun w vs σ hv hX hb => ?_)
  · intro al hal f hf af haf vs hv t ht
    have hv : vFits [.inr (.inl 12)] vs := hv
    rw [fits1 hv] at ht
    have h1 : af ∈ [(0, 11), (0, 4)] := List.mem_of_getElem? haf
    rcases List.mem_cons.mp h1 with rfl | h1
    · have ht : some (Sum.inr (Sum.inl 12) : vV) = some (.inr (.inl t)) := ht
      cases ht
      exact ⟨rfl, _, _, rfl, rfl⟩
    · have e := List.mem_singleton.mp h1
      subst e
      have ht : some (Sum.inr (Sum.inl 12) : vV) = some (.inr (.inl t)) := ht
      cases ht
      exact ⟨rfl, _, _, rfl, rfl⟩
  · have hv : vFits [.inr (.inl 12)] vs := hv
    rw [fits1 hv]
    have fp : 0 ≤ σ 12 4 ∧ σ 12 4 ≤ 940 := zf B hb (t := 12) (f := 4) (by decide +kernel)
    refine zmono (K := fun ret σ2 => ret = none ∧ zfr [12] σ σ2 ∧ ((σ 12 4 ≤ σ2 12 4 ∧ (σ2 12 11 = 0 ∨ σ2 12 11 = 4)) ∨ (σ 12 4 + 1 ≤ σ2 12 4 ∧ 1 ≤ σ2 12 11 ∧ σ2 12 11 ≤ 4))) (fun ret σ2 hb2 hk => ?_) (z_sk1a B (σ0 := σ) (p0 := σ 12 4) (fun σ2 hf hq => ⟨rfl, hf, hq⟩) 941 σ (by omega) zfr_refl (Int.le_refl _))
    obtain ⟨rfl, hf, hq⟩ := hk
    have g1 : 0 ≤ σ2 12 4 ∧ σ2 12 4 ≤ 940 := zf B hb2 (t := 12) (f := 4) (by decide +kernel)
    refine ⟨vX_fr hX (hf 52 (by decide)) (hf 74 (by decide)), ?_⟩
    rcases hq with ⟨q1, q2 | q2⟩ | ⟨q1, q2, q3⟩
    · exact ⟨_, List.mem_cons_self, trivial, sk_fc g1 (show σ 12 4 + 0 ≤ σ2 12 4 from by omega) (show 0 ≤ σ2 12 11 ∧ σ2 12 11 ≤ 0 from by omega)⟩
    · exact ⟨_, List.mem_cons_of_mem _ List.mem_cons_self, trivial, sk_fc g1 (show σ 12 4 + 0 ≤ σ2 12 4 from by omega) (show 4 ≤ σ2 12 11 ∧ σ2 12 11 ≤ 4 from by omega)⟩
    · exact ⟨_, List.mem_cons_of_mem _ (List.mem_cons_of_mem _ List.mem_cons_self), trivial, sk_fc g1 q1 ⟨q2, q3⟩⟩
theorem z_sk3b (B : zB E) {σ0 : vS} {p0 : Int} {sm al : Int} {σ : vS} (hN : ∀ (al : Int) (σ2 : vS), σ 12 4 < σ2 12 4 → zfr [12] σ0 σ2 → (p0 + 1 ≤ σ2 12 4 ∨ (p0 ≤ σ2 12 4 ∧ σ2 12 4 < σ2 12 3 ∧ ((97 ≤ vand (σ2 51 (σ2 12 4)) 255 ∧ vand (σ2 51 (σ2 12 4)) 255 ≤ 122) ∨ (48 ≤ vand (σ2 51 (σ2 12 4)) 255 ∧ vand (σ2 51 (σ2 12 4)) 255 ≤ 57)))) → (0 ≤ σ2 12 13 ∧ σ2 12 13 ≤ σ2 12 4) → (σ2 12 13 = 0 → σ2 12 14 = 0) → (σ2 12 13 = 1 → 0 ≤ σ2 12 14 ∧ σ2 12 14 ≤ 74) → (0 ≤ sm ∧ sm ≤ 1) → (0 ≤ al ∧ al ≤ 1) → zG E gjl md271 w gm_271 181 [(0, .inr (.inl 12)), (2, .inl sm), (3, .inl al)] σ2 K) (hf : zfr [12] σ0 σ) (hp : p0 ≤ σ 12 4 ∧ σ 12 4 < σ 12 3) (hc : (97 ≤ vand (σ 51 (σ 12 4)) 255 ∧ vand (σ 51 (σ 12 4)) 255 ≤ 122) ∨ (48 ≤ vand (σ 51 (σ 12 4)) 255 ∧ vand (σ 51 (σ 12 4)) 255 ≤ 57)) (h1 : 0 ≤ σ 12 13 ∧ σ 12 13 ≤ σ 12 4) (h2 : σ 12 13 = 0 → σ 12 14 = 0) (h3 : σ 12 13 = 1 → 0 ≤ σ 12 14 ∧ σ 12 14 ≤ 74) (h4 : 0 ≤ sm ∧ sm ≤ 1) (h5 : 0 ≤ al ∧ al ≤ 1) : zG E gjl md271 w gm_271 201 [(0, .inr (.inl 12)), (2, .inl sm), (3, .inl al)] σ K := by
  refine zbd (fun hb => ?_)
  have g1 : 0 ≤ σ 12 4 ∧ σ 12 4 ≤ 940 := zf B hb (t := 12) (f := 4) (by decide +kernel)
  have g2 : 0 ≤ σ 12 3 ∧ σ 12 3 ≤ 940 := zf B hb (t := 12) (f := 3) (by decide +kernel)
  refine zgo B zS_nil [] [(0, [0]), (181, [0, 2, 3]), (201, [0, 2, 3])] (fun m => Nat.beq m.2.2.2.2.2.1 0) (by decide +kernel) ?_
  refine And.intro (fun (c1 : al = 0) => ?_) (fun (c2 : ¬ al = 0) => ?_)
  · have f3 : (-2147483648) ≤ σ 12 13 ∧ σ 12 13 ≤ 2147483647 := zf B hb (t := 12) (f := 13) (by decide +kernel)
    refine And.intro (fun (c4 : 7 ≤ (σ 12 13)) => ?_) (fun (c5 : (σ 12 13) < 7) => ?_)
    · refine And.intro (fun _ => ?_) (fun (q : (σ 12 13) < 2) => (by exfalso; omega))
      refine And.intro (show -2147483648 ≤ ((σ 12 13) + 1) ∧ ((σ 12 13) + 1) ≤ 2147483647 from by omega) ?_
      refine And.intro (show Int.negSucc 2147483647 ≤ ((σ 12 13) + 1) ∧ ((σ 12 13) + 1) ≤ 2147483647 from rgm (by omega)) ?_
      have f6 : 0 ≤ σ 12 4 ∧ σ 12 4 ≤ 940 := zf B hb (t := 12) (f := 4) (by decide +kernel)
      refine And.intro (show -2147483648 ≤ ((σ 12 4) + 1) ∧ ((σ 12 4) + 1) ≤ 2147483647 from by omega) ?_
      refine And.intro (show 0 ≤ ((σ 12 4) + 1) ∧ ((σ 12 4) + 1) ≤ 940 from by omega) ?_
      first
      | (exfalso; omega)
      | (show zG E gjl md271 w gm_271 181 [(0, .inr (.inl 12)), (2, .inl sm), (3, .inl 0)] (vup (vup σ 12 13 ((σ 12 13) + 1)) 12 4 ((σ 12 4) + 1)) K; exact hN _ _ (show σ 12 4 < (σ 12 4) + 1 from by omega) (zfr_up (zfr_up hf (by decide)) (by decide)) (Or.inl (show p0 + 1 ≤ (σ 12 4) + 1 from by omega)) (show 0 ≤ (σ 12 13) + 1 ∧ (σ 12 13) + 1 ≤ (σ 12 4) + 1 from by omega) (show (σ 12 13) + 1 = 0 → σ 12 14 = 0 from fun q => by omega) (show (σ 12 13) + 1 = 1 → 0 ≤ σ 12 14 ∧ σ 12 14 ≤ 74 from fun q => by omega) (by omega) (by omega))
    · have f7 : 0 ≤ σ 12 4 ∧ σ 12 4 ≤ 940 := zf B hb (t := 12) (f := 4) (by decide +kernel)
      have f8 : 0 ≤ σ 12 3 ∧ σ 12 3 ≤ 940 := zf B hb (t := 12) (f := 3) (by decide +kernel)
      refine And.intro (fun (c9 : (σ 12 3) ≤ (σ 12 4)) => ?_) (fun (c10 : (σ 12 4) < (σ 12 3)) => ?_)
      · refine And.intro (fun (c11 : 2 ≤ (σ 12 13)) => ?_) (fun (c12 : (σ 12 13) < 2) => ?_)
        · refine And.intro (show -2147483648 ≤ ((σ 12 13) + 1) ∧ ((σ 12 13) + 1) ≤ 2147483647 from by omega) ?_
          refine And.intro (show Int.negSucc 2147483647 ≤ ((σ 12 13) + 1) ∧ ((σ 12 13) + 1) ≤ 2147483647 from rgm (by omega)) ?_
          refine And.intro (show -2147483648 ≤ ((σ 12 4) + 1) ∧ ((σ 12 4) + 1) ≤ 2147483647 from by omega) ?_
          refine And.intro (show 0 ≤ ((σ 12 4) + 1) ∧ ((σ 12 4) + 1) ≤ 940 from by omega) ?_
          first
          | (exfalso; omega)
          | (show zG E gjl md271 w gm_271 181 [(0, .inr (.inl 12)), (2, .inl sm), (3, .inl 0)] (vup (vup σ 12 13 ((σ 12 13) + 1)) 12 4 ((σ 12 4) + 1)) K; exact hN _ _ (show σ 12 4 < (σ 12 4) + 1 from by omega) (zfr_up (zfr_up hf (by decide)) (by decide)) (Or.inl (show p0 + 1 ≤ (σ 12 4) + 1 from by omega)) (show 0 ≤ (σ 12 13) + 1 ∧ (σ 12 13) + 1 ≤ (σ 12 4) + 1 from by omega) (show (σ 12 13) + 1 = 0 → σ 12 14 = 0 from fun q => by omega) (show (σ 12 13) + 1 = 1 → 0 ≤ σ 12 14 ∧ σ 12 14 ≤ 74 from fun q => by omega) (by omega) (by omega))
        · have f13 : (-2147483648) ≤ σ 12 14 ∧ σ 12 14 ≤ 2147483647 := zf B hb (t := 12) (f := 14) (by decide +kernel)
          refine And.intro (show -2147483648 ≤ (10 * (σ 12 14)) ∧ (10 * (σ 12 14)) ≤ 2147483647 from by omega) ?_
          refine And.intro (fun _ => ?_) (fun (q : (σ 12 4) < (σ 12 3)) => (by exfalso; omega))
          refine And.intro (show -2147483648 ≤ ((10 * (σ 12 14)) + (-1)) ∧ ((10 * (σ 12 14)) + (-1)) ≤ 2147483647 from by omega) ?_
          refine And.intro (show -2147483648 ≤ (((10 * (σ 12 14)) + (-1)) - 48) ∧ (((10 * (σ 12 14)) + (-1)) - 48) ≤ 2147483647 from by omega) ?_
          refine And.intro (show Int.negSucc 2147483647 ≤ (((10 * (σ 12 14)) + (-1)) - 48) ∧ (((10 * (σ 12 14)) + (-1)) - 48) ≤ 2147483647 from rgm (by omega)) ?_
          refine And.intro (show -2147483648 ≤ ((σ 12 13) + 1) ∧ ((σ 12 13) + 1) ≤ 2147483647 from by omega) ?_
          refine And.intro (show Int.negSucc 2147483647 ≤ ((σ 12 13) + 1) ∧ ((σ 12 13) + 1) ≤ 2147483647 from rgm (by omega)) ?_
          refine And.intro (show -2147483648 ≤ ((σ 12 4) + 1) ∧ ((σ 12 4) + 1) ≤ 2147483647 from by omega) ?_
          refine And.intro (show 0 ≤ ((σ 12 4) + 1) ∧ ((σ 12 4) + 1) ≤ 940 from by omega) ?_
          first
          | (exfalso; omega)
          | (show zG E gjl md271 w gm_271 181 [(0, .inr (.inl 12)), (2, .inl sm), (3, .inl 0)] (vup (vup (vup σ 12 14 (((10 * (σ 12 14)) + (-1)) - 48)) 12 13 ((σ 12 13) + 1)) 12 4 ((σ 12 4) + 1)) K; exact hN _ _ (show σ 12 4 < (σ 12 4) + 1 from by omega) (zfr_up (zfr_up (zfr_up hf (by decide)) (by decide)) (by decide)) (Or.inl (show p0 + 1 ≤ (σ 12 4) + 1 from by omega)) (show 0 ≤ (σ 12 13) + 1 ∧ (σ 12 13) + 1 ≤ (σ 12 4) + 1 from by omega) (show (σ 12 13) + 1 = 0 → ((10 * (σ 12 14)) + (-1)) - 48 = 0 from fun q => by omega) (show (σ 12 13) + 1 = 1 → 0 ≤ ((10 * (σ 12 14)) + (-1)) - 48 ∧ ((10 * (σ 12 14)) + (-1)) - 48 ≤ 74 from fun q => by omega) (by omega) (by omega))
      · refine And.intro (show 0 ≤ (σ 12 4) ∧ (σ 12 4) < 940 from by omega) ?_
        refine And.intro (fun (c14 : 2 ≤ (σ 12 13)) => ?_) (fun (c15 : (σ 12 13) < 2) => ?_)
        · refine And.intro (show -2147483648 ≤ ((σ 12 13) + 1) ∧ ((σ 12 13) + 1) ≤ 2147483647 from by omega) ?_
          refine And.intro (show Int.negSucc 2147483647 ≤ ((σ 12 13) + 1) ∧ ((σ 12 13) + 1) ≤ 2147483647 from rgm (by omega)) ?_
          refine And.intro (show -2147483648 ≤ ((σ 12 4) + 1) ∧ ((σ 12 4) + 1) ≤ 2147483647 from by omega) ?_
          refine And.intro (show 0 ≤ ((σ 12 4) + 1) ∧ ((σ 12 4) + 1) ≤ 940 from by omega) ?_
          first
          | (exfalso; omega)
          | (show zG E gjl md271 w gm_271 181 [(0, .inr (.inl 12)), (2, .inl sm), (3, .inl 0)] (vup (vup σ 12 13 ((σ 12 13) + 1)) 12 4 ((σ 12 4) + 1)) K; exact hN _ _ (show σ 12 4 < (σ 12 4) + 1 from by omega) (zfr_up (zfr_up hf (by decide)) (by decide)) (Or.inl (show p0 + 1 ≤ (σ 12 4) + 1 from by omega)) (show 0 ≤ (σ 12 13) + 1 ∧ (σ 12 13) + 1 ≤ (σ 12 4) + 1 from by omega) (show (σ 12 13) + 1 = 0 → σ 12 14 = 0 from fun q => by omega) (show (σ 12 13) + 1 = 1 → 0 ≤ σ 12 14 ∧ σ 12 14 ≤ 74 from fun q => by omega) (by omega) (by omega))
        · have f16 : (-2147483648) ≤ σ 12 14 ∧ σ 12 14 ≤ 2147483647 := zf B hb (t := 12) (f := 14) (by decide +kernel)
          refine And.intro (show -2147483648 ≤ (10 * (σ 12 14)) ∧ (10 * (σ 12 14)) ≤ 2147483647 from by omega) ?_
          refine And.intro (fun (q : (σ 12 3) ≤ (σ 12 4)) => (by exfalso; omega)) (fun _ => ?_)
          refine And.intro (show 0 ≤ (σ 12 4) ∧ (σ 12 4) < 940 from by omega) ?_
          refine And.intro (show -2147483648 ≤ ((10 * (σ 12 14)) + (vand (σ 51 (σ 12 4)) 255)) ∧ ((10 * (σ 12 14)) + (vand (σ 51 (σ 12 4)) 255)) ≤ 2147483647 from by omega) ?_
          refine And.intro (show -2147483648 ≤ (((10 * (σ 12 14)) + (vand (σ 51 (σ 12 4)) 255)) - 48) ∧ (((10 * (σ 12 14)) + (vand (σ 51 (σ 12 4)) 255)) - 48) ≤ 2147483647 from by omega) ?_
          refine And.intro (show Int.negSucc 2147483647 ≤ (((10 * (σ 12 14)) + (vand (σ 51 (σ 12 4)) 255)) - 48) ∧ (((10 * (σ 12 14)) + (vand (σ 51 (σ 12 4)) 255)) - 48) ≤ 2147483647 from rgm (by omega)) ?_
          refine And.intro (show -2147483648 ≤ ((σ 12 13) + 1) ∧ ((σ 12 13) + 1) ≤ 2147483647 from by omega) ?_
          refine And.intro (show Int.negSucc 2147483647 ≤ ((σ 12 13) + 1) ∧ ((σ 12 13) + 1) ≤ 2147483647 from rgm (by omega)) ?_
          refine And.intro (show -2147483648 ≤ ((σ 12 4) + 1) ∧ ((σ 12 4) + 1) ≤ 2147483647 from by omega) ?_
          refine And.intro (show 0 ≤ ((σ 12 4) + 1) ∧ ((σ 12 4) + 1) ≤ 940 from by omega) ?_
          first
          | (exfalso; omega)
          | (show zG E gjl md271 w gm_271 181 [(0, .inr (.inl 12)), (2, .inl sm), (3, .inl 0)] (vup (vup (vup σ 12 14 (((10 * (σ 12 14)) + (vand (σ 51 (σ 12 4)) 255)) - 48)) 12 13 ((σ 12 13) + 1)) 12 4 ((σ 12 4) + 1)) K; exact hN _ _ (show σ 12 4 < (σ 12 4) + 1 from by omega) (zfr_up (zfr_up (zfr_up hf (by decide)) (by decide)) (by decide)) (Or.inl (show p0 + 1 ≤ (σ 12 4) + 1 from by omega)) (show 0 ≤ (σ 12 13) + 1 ∧ (σ 12 13) + 1 ≤ (σ 12 4) + 1 from by omega) (show (σ 12 13) + 1 = 0 → ((10 * (σ 12 14)) + (vand (σ 51 (σ 12 4)) 255)) - 48 = 0 from fun q => by omega) (show (σ 12 13) + 1 = 1 → 0 ≤ ((10 * (σ 12 14)) + (vand (σ 51 (σ 12 4)) 255)) - 48 ∧ ((10 * (σ 12 14)) + (vand (σ 51 (σ 12 4)) 255)) - 48 ≤ 74 from fun q => by omega) (by omega) (by omega))
  · have f17 : 0 ≤ σ 12 4 ∧ σ 12 4 ≤ 940 := zf B hb (t := 12) (f := 4) (by decide +kernel)
    have f18 : 0 ≤ σ 12 3 ∧ σ 12 3 ≤ 940 := zf B hb (t := 12) (f := 3) (by decide +kernel)
    refine And.intro (fun (c19 : (σ 12 3) ≤ (σ 12 4)) => ?_) (fun (c20 : (σ 12 4) < (σ 12 3)) => ?_)
    · refine And.intro (fun _ => ?_) (fun (q : 97 ≤ (-1)) => absurd q (by decide))
      refine And.intro (show 0 ≤ 0 ∧ 0 ≤ 1 from by omega) ?_
      refine And.intro (fun (c21 : ¬ 0 = sm) => ?_) (fun (c22 : 0 = sm) => ?_)
      · have f23 : (-2147483648) ≤ σ 12 13 ∧ σ 12 13 ≤ 2147483647 := zf B hb (t := 12) (f := 13) (by decide +kernel)
        refine And.intro (fun (c24 : 7 ≤ (σ 12 13)) => ?_) (fun (c25 : (σ 12 13) < 7) => ?_)
        · refine And.intro (fun _ => ?_) (fun (q : (σ 12 13) < 2) => (by exfalso; omega))
          refine And.intro (show -2147483648 ≤ ((σ 12 13) + 1) ∧ ((σ 12 13) + 1) ≤ 2147483647 from by omega) ?_
          refine And.intro (show Int.negSucc 2147483647 ≤ ((σ 12 13) + 1) ∧ ((σ 12 13) + 1) ≤ 2147483647 from rgm (by omega)) ?_
          refine And.intro (show -2147483648 ≤ ((σ 12 4) + 1) ∧ ((σ 12 4) + 1) ≤ 2147483647 from by omega) ?_
          refine And.intro (show 0 ≤ ((σ 12 4) + 1) ∧ ((σ 12 4) + 1) ≤ 940 from by omega) ?_
          first
          | (exfalso; omega)
          | (show zG E gjl md271 w gm_271 181 [(0, .inr (.inl 12)), (2, .inl sm), (3, .inl 0)] (vup (vup σ 12 13 ((σ 12 13) + 1)) 12 4 ((σ 12 4) + 1)) K; exact hN _ _ (show σ 12 4 < (σ 12 4) + 1 from by omega) (zfr_up (zfr_up hf (by decide)) (by decide)) (Or.inl (show p0 + 1 ≤ (σ 12 4) + 1 from by omega)) (show 0 ≤ (σ 12 13) + 1 ∧ (σ 12 13) + 1 ≤ (σ 12 4) + 1 from by omega) (show (σ 12 13) + 1 = 0 → σ 12 14 = 0 from fun q => by omega) (show (σ 12 13) + 1 = 1 → 0 ≤ σ 12 14 ∧ σ 12 14 ≤ 74 from fun q => by omega) (by omega) (by omega))
        · refine And.intro (fun _ => ?_) (fun (q : (σ 12 4) < (σ 12 3)) => (by exfalso; omega))
          refine And.intro (fun (c26 : 2 ≤ (σ 12 13)) => ?_) (fun (c27 : (σ 12 13) < 2) => ?_)
          · refine And.intro (show -2147483648 ≤ ((σ 12 13) + 1) ∧ ((σ 12 13) + 1) ≤ 2147483647 from by omega) ?_
            refine And.intro (show Int.negSucc 2147483647 ≤ ((σ 12 13) + 1) ∧ ((σ 12 13) + 1) ≤ 2147483647 from rgm (by omega)) ?_
            refine And.intro (show -2147483648 ≤ ((σ 12 4) + 1) ∧ ((σ 12 4) + 1) ≤ 2147483647 from by omega) ?_
            refine And.intro (show 0 ≤ ((σ 12 4) + 1) ∧ ((σ 12 4) + 1) ≤ 940 from by omega) ?_
            first
            | (exfalso; omega)
            | (show zG E gjl md271 w gm_271 181 [(0, .inr (.inl 12)), (2, .inl sm), (3, .inl 0)] (vup (vup σ 12 13 ((σ 12 13) + 1)) 12 4 ((σ 12 4) + 1)) K; exact hN _ _ (show σ 12 4 < (σ 12 4) + 1 from by omega) (zfr_up (zfr_up hf (by decide)) (by decide)) (Or.inl (show p0 + 1 ≤ (σ 12 4) + 1 from by omega)) (show 0 ≤ (σ 12 13) + 1 ∧ (σ 12 13) + 1 ≤ (σ 12 4) + 1 from by omega) (show (σ 12 13) + 1 = 0 → σ 12 14 = 0 from fun q => by omega) (show (σ 12 13) + 1 = 1 → 0 ≤ σ 12 14 ∧ σ 12 14 ≤ 74 from fun q => by omega) (by omega) (by omega))
          · have f28 : (-2147483648) ≤ σ 12 14 ∧ σ 12 14 ≤ 2147483647 := zf B hb (t := 12) (f := 14) (by decide +kernel)
            refine And.intro (show -2147483648 ≤ (10 * (σ 12 14)) ∧ (10 * (σ 12 14)) ≤ 2147483647 from by omega) ?_
            refine And.intro (fun _ => ?_) (fun (q : (σ 12 4) < (σ 12 3)) => (by exfalso; omega))
            refine And.intro (show -2147483648 ≤ ((10 * (σ 12 14)) + (-1)) ∧ ((10 * (σ 12 14)) + (-1)) ≤ 2147483647 from by omega) ?_
            refine And.intro (show -2147483648 ≤ (((10 * (σ 12 14)) + (-1)) - 48) ∧ (((10 * (σ 12 14)) + (-1)) - 48) ≤ 2147483647 from by omega) ?_
            refine And.intro (show Int.negSucc 2147483647 ≤ (((10 * (σ 12 14)) + (-1)) - 48) ∧ (((10 * (σ 12 14)) + (-1)) - 48) ≤ 2147483647 from rgm (by omega)) ?_
            refine And.intro (show -2147483648 ≤ ((σ 12 13) + 1) ∧ ((σ 12 13) + 1) ≤ 2147483647 from by omega) ?_
            refine And.intro (show Int.negSucc 2147483647 ≤ ((σ 12 13) + 1) ∧ ((σ 12 13) + 1) ≤ 2147483647 from rgm (by omega)) ?_
            refine And.intro (show -2147483648 ≤ ((σ 12 4) + 1) ∧ ((σ 12 4) + 1) ≤ 2147483647 from by omega) ?_
            refine And.intro (show 0 ≤ ((σ 12 4) + 1) ∧ ((σ 12 4) + 1) ≤ 940 from by omega) ?_
            first
            | (exfalso; omega)
            | (show zG E gjl md271 w gm_271 181 [(0, .inr (.inl 12)), (2, .inl sm), (3, .inl 0)] (vup (vup (vup σ 12 14 (((10 * (σ 12 14)) + (-1)) - 48)) 12 13 ((σ 12 13) + 1)) 12 4 ((σ 12 4) + 1)) K; exact hN _ _ (show σ 12 4 < (σ 12 4) + 1 from by omega) (zfr_up (zfr_up (zfr_up hf (by decide)) (by decide)) (by decide)) (Or.inl (show p0 + 1 ≤ (σ 12 4) + 1 from by omega)) (show 0 ≤ (σ 12 13) + 1 ∧ (σ 12 13) + 1 ≤ (σ 12 4) + 1 from by omega) (show (σ 12 13) + 1 = 0 → ((10 * (σ 12 14)) + (-1)) - 48 = 0 from fun q => by omega) (show (σ 12 13) + 1 = 1 → 0 ≤ ((10 * (σ 12 14)) + (-1)) - 48 ∧ ((10 * (σ 12 14)) + (-1)) - 48 ≤ 74 from fun q => by omega) (by omega) (by omega))
      · have f29 : (-2147483648) ≤ σ 12 13 ∧ σ 12 13 ≤ 2147483647 := zf B hb (t := 12) (f := 13) (by decide +kernel)
        refine And.intro (fun (c30 : 7 ≤ (σ 12 13)) => ?_) (fun (c31 : (σ 12 13) < 7) => ?_)
        · refine And.intro (fun _ => ?_) (fun (q : (σ 12 13) < 2) => (by exfalso; omega))
          refine And.intro (show -2147483648 ≤ ((σ 12 13) + 1) ∧ ((σ 12 13) + 1) ≤ 2147483647 from by omega) ?_
          refine And.intro (show Int.negSucc 2147483647 ≤ ((σ 12 13) + 1) ∧ ((σ 12 13) + 1) ≤ 2147483647 from rgm (by omega)) ?_
          refine And.intro (show -2147483648 ≤ ((σ 12 4) + 1) ∧ ((σ 12 4) + 1) ≤ 2147483647 from by omega) ?_
          refine And.intro (show 0 ≤ ((σ 12 4) + 1) ∧ ((σ 12 4) + 1) ≤ 940 from by omega) ?_
          first
          | (exfalso; omega)
          | (show zG E gjl md271 w gm_271 181 [(0, .inr (.inl 12)), (2, .inl sm), (3, .inl 1)] (vup (vup σ 12 13 ((σ 12 13) + 1)) 12 4 ((σ 12 4) + 1)) K; exact hN _ _ (show σ 12 4 < (σ 12 4) + 1 from by omega) (zfr_up (zfr_up hf (by decide)) (by decide)) (Or.inl (show p0 + 1 ≤ (σ 12 4) + 1 from by omega)) (show 0 ≤ (σ 12 13) + 1 ∧ (σ 12 13) + 1 ≤ (σ 12 4) + 1 from by omega) (show (σ 12 13) + 1 = 0 → σ 12 14 = 0 from fun q => by omega) (show (σ 12 13) + 1 = 1 → 0 ≤ σ 12 14 ∧ σ 12 14 ≤ 74 from fun q => by omega) (by omega) (by omega))
        · refine And.intro (fun _ => ?_) (fun (q : (σ 12 4) < (σ 12 3)) => (by exfalso; omega))
          refine And.intro (fun (c32 : 2 ≤ (σ 12 13)) => ?_) (fun (c33 : (σ 12 13) < 2) => ?_)
          · refine And.intro (show -2147483648 ≤ ((σ 12 13) + 1) ∧ ((σ 12 13) + 1) ≤ 2147483647 from by omega) ?_
            refine And.intro (show Int.negSucc 2147483647 ≤ ((σ 12 13) + 1) ∧ ((σ 12 13) + 1) ≤ 2147483647 from rgm (by omega)) ?_
            refine And.intro (show -2147483648 ≤ ((σ 12 4) + 1) ∧ ((σ 12 4) + 1) ≤ 2147483647 from by omega) ?_
            refine And.intro (show 0 ≤ ((σ 12 4) + 1) ∧ ((σ 12 4) + 1) ≤ 940 from by omega) ?_
            first
            | (exfalso; omega)
            | (show zG E gjl md271 w gm_271 181 [(0, .inr (.inl 12)), (2, .inl sm), (3, .inl 1)] (vup (vup σ 12 13 ((σ 12 13) + 1)) 12 4 ((σ 12 4) + 1)) K; exact hN _ _ (show σ 12 4 < (σ 12 4) + 1 from by omega) (zfr_up (zfr_up hf (by decide)) (by decide)) (Or.inl (show p0 + 1 ≤ (σ 12 4) + 1 from by omega)) (show 0 ≤ (σ 12 13) + 1 ∧ (σ 12 13) + 1 ≤ (σ 12 4) + 1 from by omega) (show (σ 12 13) + 1 = 0 → σ 12 14 = 0 from fun q => by omega) (show (σ 12 13) + 1 = 1 → 0 ≤ σ 12 14 ∧ σ 12 14 ≤ 74 from fun q => by omega) (by omega) (by omega))
          · have f34 : (-2147483648) ≤ σ 12 14 ∧ σ 12 14 ≤ 2147483647 := zf B hb (t := 12) (f := 14) (by decide +kernel)
            refine And.intro (show -2147483648 ≤ (10 * (σ 12 14)) ∧ (10 * (σ 12 14)) ≤ 2147483647 from by omega) ?_
            refine And.intro (fun _ => ?_) (fun (q : (σ 12 4) < (σ 12 3)) => (by exfalso; omega))
            refine And.intro (show -2147483648 ≤ ((10 * (σ 12 14)) + (-1)) ∧ ((10 * (σ 12 14)) + (-1)) ≤ 2147483647 from by omega) ?_
            refine And.intro (show -2147483648 ≤ (((10 * (σ 12 14)) + (-1)) - 48) ∧ (((10 * (σ 12 14)) + (-1)) - 48) ≤ 2147483647 from by omega) ?_
            refine And.intro (show Int.negSucc 2147483647 ≤ (((10 * (σ 12 14)) + (-1)) - 48) ∧ (((10 * (σ 12 14)) + (-1)) - 48) ≤ 2147483647 from rgm (by omega)) ?_
            refine And.intro (show -2147483648 ≤ ((σ 12 13) + 1) ∧ ((σ 12 13) + 1) ≤ 2147483647 from by omega) ?_
            refine And.intro (show Int.negSucc 2147483647 ≤ ((σ 12 13) + 1) ∧ ((σ 12 13) + 1) ≤ 2147483647 from rgm (by omega)) ?_
            refine And.intro (show -2147483648 ≤ ((σ 12 4) + 1) ∧ ((σ 12 4) + 1) ≤ 2147483647 from by omega) ?_
            refine And.intro (show 0 ≤ ((σ 12 4) + 1) ∧ ((σ 12 4) + 1) ≤ 940 from by omega) ?_
            first
            | (exfalso; omega)
            | (show zG E gjl md271 w gm_271 181 [(0, .inr (.inl 12)), (2, .inl sm), (3, .inl 1)] (vup (vup (vup σ 12 14 (((10 * (σ 12 14)) + (-1)) - 48)) 12 13 ((σ 12 13) + 1)) 12 4 ((σ 12 4) + 1)) K; exact hN _ _ (show σ 12 4 < (σ 12 4) + 1 from by omega) (zfr_up (zfr_up (zfr_up hf (by decide)) (by decide)) (by decide)) (Or.inl (show p0 + 1 ≤ (σ 12 4) + 1 from by omega)) (show 0 ≤ (σ 12 13) + 1 ∧ (σ 12 13) + 1 ≤ (σ 12 4) + 1 from by omega) (show (σ 12 13) + 1 = 0 → ((10 * (σ 12 14)) + (-1)) - 48 = 0 from fun q => by omega) (show (σ 12 13) + 1 = 1 → 0 ≤ ((10 * (σ 12 14)) + (-1)) - 48 ∧ ((10 * (σ 12 14)) + (-1)) - 48 ≤ 74 from fun q => by omega) (by omega) (by omega))
    · refine And.intro (show 0 ≤ (σ 12 4) ∧ (σ 12 4) < 940 from by omega) ?_
      refine And.intro (fun (c35 : (vand (σ 51 (σ 12 4)) 255) < 97) => ?_) (fun (c36 : 97 ≤ (vand (σ 51 (σ 12 4)) 255)) => ?_)
      · refine And.intro (show 0 ≤ 0 ∧ 0 ≤ 1 from by omega) ?_
        refine And.intro (fun (c37 : ¬ 0 = sm) => ?_) (fun (c38 : 0 = sm) => ?_)
        · have f39 : (-2147483648) ≤ σ 12 13 ∧ σ 12 13 ≤ 2147483647 := zf B hb (t := 12) (f := 13) (by decide +kernel)
          refine And.intro (fun (c40 : 7 ≤ (σ 12 13)) => ?_) (fun (c41 : (σ 12 13) < 7) => ?_)
          · refine And.intro (fun _ => ?_) (fun (q : (σ 12 13) < 2) => (by exfalso; omega))
            refine And.intro (show -2147483648 ≤ ((σ 12 13) + 1) ∧ ((σ 12 13) + 1) ≤ 2147483647 from by omega) ?_
            refine And.intro (show Int.negSucc 2147483647 ≤ ((σ 12 13) + 1) ∧ ((σ 12 13) + 1) ≤ 2147483647 from rgm (by omega)) ?_
            refine And.intro (show -2147483648 ≤ ((σ 12 4) + 1) ∧ ((σ 12 4) + 1) ≤ 2147483647 from by omega) ?_
            refine And.intro (show 0 ≤ ((σ 12 4) + 1) ∧ ((σ 12 4) + 1) ≤ 940 from by omega) ?_
            first
            | (exfalso; omega)
            | (show zG E gjl md271 w gm_271 181 [(0, .inr (.inl 12)), (2, .inl sm), (3, .inl 0)] (vup (vup σ 12 13 ((σ 12 13) + 1)) 12 4 ((σ 12 4) + 1)) K; exact hN _ _ (show σ 12 4 < (σ 12 4) + 1 from by omega) (zfr_up (zfr_up hf (by decide)) (by decide)) (Or.inl (show p0 + 1 ≤ (σ 12 4) + 1 from by omega)) (show 0 ≤ (σ 12 13) + 1 ∧ (σ 12 13) + 1 ≤ (σ 12 4) + 1 from by omega) (show (σ 12 13) + 1 = 0 → σ 12 14 = 0 from fun q => by omega) (show (σ 12 13) + 1 = 1 → 0 ≤ σ 12 14 ∧ σ 12 14 ≤ 74 from fun q => by omega) (by omega) (by omega))
          · refine And.intro (fun (q : (σ 12 3) ≤ (σ 12 4)) => (by exfalso; omega)) (fun _ => ?_)
            refine And.intro (show 0 ≤ (σ 12 4) ∧ (σ 12 4) < 940 from by omega) ?_
            refine And.intro (fun (c42 : 2 ≤ (σ 12 13)) => ?_) (fun (c43 : (σ 12 13) < 2) => ?_)
            · refine And.intro (show -2147483648 ≤ ((σ 12 13) + 1) ∧ ((σ 12 13) + 1) ≤ 2147483647 from by omega) ?_
              refine And.intro (show Int.negSucc 2147483647 ≤ ((σ 12 13) + 1) ∧ ((σ 12 13) + 1) ≤ 2147483647 from rgm (by omega)) ?_
              refine And.intro (show -2147483648 ≤ ((σ 12 4) + 1) ∧ ((σ 12 4) + 1) ≤ 2147483647 from by omega) ?_
              refine And.intro (show 0 ≤ ((σ 12 4) + 1) ∧ ((σ 12 4) + 1) ≤ 940 from by omega) ?_
              first
              | (exfalso; omega)
              | (show zG E gjl md271 w gm_271 181 [(0, .inr (.inl 12)), (2, .inl sm), (3, .inl 0)] (vup (vup σ 12 13 ((σ 12 13) + 1)) 12 4 ((σ 12 4) + 1)) K; exact hN _ _ (show σ 12 4 < (σ 12 4) + 1 from by omega) (zfr_up (zfr_up hf (by decide)) (by decide)) (Or.inl (show p0 + 1 ≤ (σ 12 4) + 1 from by omega)) (show 0 ≤ (σ 12 13) + 1 ∧ (σ 12 13) + 1 ≤ (σ 12 4) + 1 from by omega) (show (σ 12 13) + 1 = 0 → σ 12 14 = 0 from fun q => by omega) (show (σ 12 13) + 1 = 1 → 0 ≤ σ 12 14 ∧ σ 12 14 ≤ 74 from fun q => by omega) (by omega) (by omega))
            · have f44 : (-2147483648) ≤ σ 12 14 ∧ σ 12 14 ≤ 2147483647 := zf B hb (t := 12) (f := 14) (by decide +kernel)
              refine And.intro (show -2147483648 ≤ (10 * (σ 12 14)) ∧ (10 * (σ 12 14)) ≤ 2147483647 from by omega) ?_
              refine And.intro (fun (q : (σ 12 3) ≤ (σ 12 4)) => (by exfalso; omega)) (fun _ => ?_)
              refine And.intro (show 0 ≤ (σ 12 4) ∧ (σ 12 4) < 940 from by omega) ?_
              refine And.intro (show -2147483648 ≤ ((10 * (σ 12 14)) + (vand (σ 51 (σ 12 4)) 255)) ∧ ((10 * (σ 12 14)) + (vand (σ 51 (σ 12 4)) 255)) ≤ 2147483647 from by omega) ?_
              refine And.intro (show -2147483648 ≤ (((10 * (σ 12 14)) + (vand (σ 51 (σ 12 4)) 255)) - 48) ∧ (((10 * (σ 12 14)) + (vand (σ 51 (σ 12 4)) 255)) - 48) ≤ 2147483647 from by omega) ?_
              refine And.intro (show Int.negSucc 2147483647 ≤ (((10 * (σ 12 14)) + (vand (σ 51 (σ 12 4)) 255)) - 48) ∧ (((10 * (σ 12 14)) + (vand (σ 51 (σ 12 4)) 255)) - 48) ≤ 2147483647 from rgm (by omega)) ?_
              refine And.intro (show -2147483648 ≤ ((σ 12 13) + 1) ∧ ((σ 12 13) + 1) ≤ 2147483647 from by omega) ?_
              refine And.intro (show Int.negSucc 2147483647 ≤ ((σ 12 13) + 1) ∧ ((σ 12 13) + 1) ≤ 2147483647 from rgm (by omega)) ?_
              refine And.intro (show -2147483648 ≤ ((σ 12 4) + 1) ∧ ((σ 12 4) + 1) ≤ 2147483647 from by omega) ?_
              refine And.intro (show 0 ≤ ((σ 12 4) + 1) ∧ ((σ 12 4) + 1) ≤ 940 from by omega) ?_
              first
              | (exfalso; omega)
              | (show zG E gjl md271 w gm_271 181 [(0, .inr (.inl 12)), (2, .inl sm), (3, .inl 0)] (vup (vup (vup σ 12 14 (((10 * (σ 12 14)) + (vand (σ 51 (σ 12 4)) 255)) - 48)) 12 13 ((σ 12 13) + 1)) 12 4 ((σ 12 4) + 1)) K; exact hN _ _ (show σ 12 4 < (σ 12 4) + 1 from by omega) (zfr_up (zfr_up (zfr_up hf (by decide)) (by decide)) (by decide)) (Or.inl (show p0 + 1 ≤ (σ 12 4) + 1 from by omega)) (show 0 ≤ (σ 12 13) + 1 ∧ (σ 12 13) + 1 ≤ (σ 12 4) + 1 from by omega) (show (σ 12 13) + 1 = 0 → ((10 * (σ 12 14)) + (vand (σ 51 (σ 12 4)) 255)) - 48 = 0 from fun q => by omega) (show (σ 12 13) + 1 = 1 → 0 ≤ ((10 * (σ 12 14)) + (vand (σ 51 (σ 12 4)) 255)) - 48 ∧ ((10 * (σ 12 14)) + (vand (σ 51 (σ 12 4)) 255)) - 48 ≤ 74 from fun q => by omega) (by omega) (by omega))
        · have f45 : (-2147483648) ≤ σ 12 13 ∧ σ 12 13 ≤ 2147483647 := zf B hb (t := 12) (f := 13) (by decide +kernel)
          refine And.intro (fun (c46 : 7 ≤ (σ 12 13)) => ?_) (fun (c47 : (σ 12 13) < 7) => ?_)
          · refine And.intro (fun _ => ?_) (fun (q : (σ 12 13) < 2) => (by exfalso; omega))
            refine And.intro (show -2147483648 ≤ ((σ 12 13) + 1) ∧ ((σ 12 13) + 1) ≤ 2147483647 from by omega) ?_
            refine And.intro (show Int.negSucc 2147483647 ≤ ((σ 12 13) + 1) ∧ ((σ 12 13) + 1) ≤ 2147483647 from rgm (by omega)) ?_
            refine And.intro (show -2147483648 ≤ ((σ 12 4) + 1) ∧ ((σ 12 4) + 1) ≤ 2147483647 from by omega) ?_
            refine And.intro (show 0 ≤ ((σ 12 4) + 1) ∧ ((σ 12 4) + 1) ≤ 940 from by omega) ?_
            first
            | (exfalso; omega)
            | (show zG E gjl md271 w gm_271 181 [(0, .inr (.inl 12)), (2, .inl sm), (3, .inl 1)] (vup (vup σ 12 13 ((σ 12 13) + 1)) 12 4 ((σ 12 4) + 1)) K; exact hN _ _ (show σ 12 4 < (σ 12 4) + 1 from by omega) (zfr_up (zfr_up hf (by decide)) (by decide)) (Or.inl (show p0 + 1 ≤ (σ 12 4) + 1 from by omega)) (show 0 ≤ (σ 12 13) + 1 ∧ (σ 12 13) + 1 ≤ (σ 12 4) + 1 from by omega) (show (σ 12 13) + 1 = 0 → σ 12 14 = 0 from fun q => by omega) (show (σ 12 13) + 1 = 1 → 0 ≤ σ 12 14 ∧ σ 12 14 ≤ 74 from fun q => by omega) (by omega) (by omega))
          · refine And.intro (fun (q : (σ 12 3) ≤ (σ 12 4)) => (by exfalso; omega)) (fun _ => ?_)
            refine And.intro (show 0 ≤ (σ 12 4) ∧ (σ 12 4) < 940 from by omega) ?_
            refine And.intro (fun (c48 : 2 ≤ (σ 12 13)) => ?_) (fun (c49 : (σ 12 13) < 2) => ?_)
            · refine And.intro (show -2147483648 ≤ ((σ 12 13) + 1) ∧ ((σ 12 13) + 1) ≤ 2147483647 from by omega) ?_
              refine And.intro (show Int.negSucc 2147483647 ≤ ((σ 12 13) + 1) ∧ ((σ 12 13) + 1) ≤ 2147483647 from rgm (by omega)) ?_
              refine And.intro (show -2147483648 ≤ ((σ 12 4) + 1) ∧ ((σ 12 4) + 1) ≤ 2147483647 from by omega) ?_
              refine And.intro (show 0 ≤ ((σ 12 4) + 1) ∧ ((σ 12 4) + 1) ≤ 940 from by omega) ?_
              first
              | (exfalso; omega)
              | (show zG E gjl md271 w gm_271 181 [(0, .inr (.inl 12)), (2, .inl sm), (3, .inl 1)] (vup (vup σ 12 13 ((σ 12 13) + 1)) 12 4 ((σ 12 4) + 1)) K; exact hN _ _ (show σ 12 4 < (σ 12 4) + 1 from by omega) (zfr_up (zfr_up hf (by decide)) (by decide)) (Or.inl (show p0 + 1 ≤ (σ 12 4) + 1 from by omega)) (show 0 ≤ (σ 12 13) + 1 ∧ (σ 12 13) + 1 ≤ (σ 12 4) + 1 from by omega) (show (σ 12 13) + 1 = 0 → σ 12 14 = 0 from fun q => by omega) (show (σ 12 13) + 1 = 1 → 0 ≤ σ 12 14 ∧ σ 12 14 ≤ 74 from fun q => by omega) (by omega) (by omega))
            · have f50 : (-2147483648) ≤ σ 12 14 ∧ σ 12 14 ≤ 2147483647 := zf B hb (t := 12) (f := 14) (by decide +kernel)
              refine And.intro (show -2147483648 ≤ (10 * (σ 12 14)) ∧ (10 * (σ 12 14)) ≤ 2147483647 from by omega) ?_
              refine And.intro (fun (q : (σ 12 3) ≤ (σ 12 4)) => (by exfalso; omega)) (fun _ => ?_)
              refine And.intro (show 0 ≤ (σ 12 4) ∧ (σ 12 4) < 940 from by omega) ?_
              refine And.intro (show -2147483648 ≤ ((10 * (σ 12 14)) + (vand (σ 51 (σ 12 4)) 255)) ∧ ((10 * (σ 12 14)) + (vand (σ 51 (σ 12 4)) 255)) ≤ 2147483647 from by omega) ?_
              refine And.intro (show -2147483648 ≤ (((10 * (σ 12 14)) + (vand (σ 51 (σ 12 4)) 255)) - 48) ∧ (((10 * (σ 12 14)) + (vand (σ 51 (σ 12 4)) 255)) - 48) ≤ 2147483647 from by omega) ?_
              refine And.intro (show Int.negSucc 2147483647 ≤ (((10 * (σ 12 14)) + (vand (σ 51 (σ 12 4)) 255)) - 48) ∧ (((10 * (σ 12 14)) + (vand (σ 51 (σ 12 4)) 255)) - 48) ≤ 2147483647 from rgm (by omega)) ?_
              refine And.intro (show -2147483648 ≤ ((σ 12 13) + 1) ∧ ((σ 12 13) + 1) ≤ 2147483647 from by omega) ?_
              refine And.intro (show Int.negSucc 2147483647 ≤ ((σ 12 13) + 1) ∧ ((σ 12 13) + 1) ≤ 2147483647 from rgm (by omega)) ?_
              refine And.intro (show -2147483648 ≤ ((σ 12 4) + 1) ∧ ((σ 12 4) + 1) ≤ 2147483647 from by omega) ?_
              refine And.intro (show 0 ≤ ((σ 12 4) + 1) ∧ ((σ 12 4) + 1) ≤ 940 from by omega) ?_
              first
              | (exfalso; omega)
              | (show zG E gjl md271 w gm_271 181 [(0, .inr (.inl 12)), (2, .inl sm), (3, .inl 1)] (vup (vup (vup σ 12 14 (((10 * (σ 12 14)) + (vand (σ 51 (σ 12 4)) 255)) - 48)) 12 13 ((σ 12 13) + 1)) 12 4 ((σ 12 4) + 1)) K; exact hN _ _ (show σ 12 4 < (σ 12 4) + 1 from by omega) (zfr_up (zfr_up (zfr_up hf (by decide)) (by decide)) (by decide)) (Or.inl (show p0 + 1 ≤ (σ 12 4) + 1 from by omega)) (show 0 ≤ (σ 12 13) + 1 ∧ (σ 12 13) + 1 ≤ (σ 12 4) + 1 from by omega) (show (σ 12 13) + 1 = 0 → ((10 * (σ 12 14)) + (vand (σ 51 (σ 12 4)) 255)) - 48 = 0 from fun q => by omega) (show (σ 12 13) + 1 = 1 → 0 ≤ ((10 * (σ 12 14)) + (vand (σ 51 (σ 12 4)) 255)) - 48 ∧ ((10 * (σ 12 14)) + (vand (σ 51 (σ 12 4)) 255)) - 48 ≤ 74 from fun q => by omega) (by omega) (by omega))
      · refine And.intro (fun (c51 : 122 < (vand (σ 51 (σ 12 4)) 255)) => ?_) (fun (c52 : (vand (σ 51 (σ 12 4)) 255) ≤ 122) => ?_)
        · refine And.intro (show 0 ≤ 0 ∧ 0 ≤ 1 from by omega) ?_
          refine And.intro (fun (c53 : ¬ 0 = sm) => ?_) (fun (c54 : 0 = sm) => ?_)
          · have f55 : (-2147483648) ≤ σ 12 13 ∧ σ 12 13 ≤ 2147483647 := zf B hb (t := 12) (f := 13) (by decide +kernel)
            refine And.intro (fun (c56 : 7 ≤ (σ 12 13)) => ?_) (fun (c57 : (σ 12 13) < 7) => ?_)
            · refine And.intro (fun _ => ?_) (fun (q : (σ 12 13) < 2) => (by exfalso; omega))
              refine And.intro (show -2147483648 ≤ ((σ 12 13) + 1) ∧ ((σ 12 13) + 1) ≤ 2147483647 from by omega) ?_
              refine And.intro (show Int.negSucc 2147483647 ≤ ((σ 12 13) + 1) ∧ ((σ 12 13) + 1) ≤ 2147483647 from rgm (by omega)) ?_
              refine And.intro (show -2147483648 ≤ ((σ 12 4) + 1) ∧ ((σ 12 4) + 1) ≤ 2147483647 from by omega) ?_
              refine And.intro (show 0 ≤ ((σ 12 4) + 1) ∧ ((σ 12 4) + 1) ≤ 940 from by omega) ?_
              first
              | (exfalso; omega)
              | (show zG E gjl md271 w gm_271 181 [(0, .inr (.inl 12)), (2, .inl sm), (3, .inl 0)] (vup (vup σ 12 13 ((σ 12 13) + 1)) 12 4 ((σ 12 4) + 1)) K; exact hN _ _ (show σ 12 4 < (σ 12 4) + 1 from by omega) (zfr_up (zfr_up hf (by decide)) (by decide)) (Or.inl (show p0 + 1 ≤ (σ 12 4) + 1 from by omega)) (show 0 ≤ (σ 12 13) + 1 ∧ (σ 12 13) + 1 ≤ (σ 12 4) + 1 from by omega) (show (σ 12 13) + 1 = 0 → σ 12 14 = 0 from fun q => by omega) (show (σ 12 13) + 1 = 1 → 0 ≤ σ 12 14 ∧ σ 12 14 ≤ 74 from fun q => by omega) (by omega) (by omega))
            · refine And.intro (fun (q : (σ 12 3) ≤ (σ 12 4)) => (by exfalso; omega)) (fun _ => ?_)
              refine And.intro (show 0 ≤ (σ 12 4) ∧ (σ 12 4) < 940 from by omega) ?_
              refine And.intro (fun (c58 : 2 ≤ (σ 12 13)) => ?_) (fun (c59 : (σ 12 13) < 2) => ?_)
              · refine And.intro (show -2147483648 ≤ ((σ 12 13) + 1) ∧ ((σ 12 13) + 1) ≤ 2147483647 from by omega) ?_
                refine And.intro (show Int.negSucc 2147483647 ≤ ((σ 12 13) + 1) ∧ ((σ 12 13) + 1) ≤ 2147483647 from rgm (by omega)) ?_
                refine And.intro (show -2147483648 ≤ ((σ 12 4) + 1) ∧ ((σ 12 4) + 1) ≤ 2147483647 from by omega) ?_
                refine And.intro (show 0 ≤ ((σ 12 4) + 1) ∧ ((σ 12 4) + 1) ≤ 940 from by omega) ?_
                first
                | (exfalso; omega)
                | (show zG E gjl md271 w gm_271 181 [(0, .inr (.inl 12)), (2, .inl sm), (3, .inl 0)] (vup (vup σ 12 13 ((σ 12 13) + 1)) 12 4 ((σ 12 4) + 1)) K; exact hN _ _ (show σ 12 4 < (σ 12 4) + 1 from by omega) (zfr_up (zfr_up hf (by decide)) (by decide)) (Or.inl (show p0 + 1 ≤ (σ 12 4) + 1 from by omega)) (show 0 ≤ (σ 12 13) + 1 ∧ (σ 12 13) + 1 ≤ (σ 12 4) + 1 from by omega) (show (σ 12 13) + 1 = 0 → σ 12 14 = 0 from fun q => by omega) (show (σ 12 13) + 1 = 1 → 0 ≤ σ 12 14 ∧ σ 12 14 ≤ 74 from fun q => by omega) (by omega) (by omega))
              · have f60 : (-2147483648) ≤ σ 12 14 ∧ σ 12 14 ≤ 2147483647 := zf B hb (t := 12) (f := 14) (by decide +kernel)
                refine And.intro (show -2147483648 ≤ (10 * (σ 12 14)) ∧ (10 * (σ 12 14)) ≤ 2147483647 from by omega) ?_
                refine And.intro (fun (q : (σ 12 3) ≤ (σ 12 4)) => (by exfalso; omega)) (fun _ => ?_)
                refine And.intro (show 0 ≤ (σ 12 4) ∧ (σ 12 4) < 940 from by omega) ?_
                refine And.intro (show -2147483648 ≤ ((10 * (σ 12 14)) + (vand (σ 51 (σ 12 4)) 255)) ∧ ((10 * (σ 12 14)) + (vand (σ 51 (σ 12 4)) 255)) ≤ 2147483647 from by omega) ?_
                refine And.intro (show -2147483648 ≤ (((10 * (σ 12 14)) + (vand (σ 51 (σ 12 4)) 255)) - 48) ∧ (((10 * (σ 12 14)) + (vand (σ 51 (σ 12 4)) 255)) - 48) ≤ 2147483647 from by omega) ?_
                refine And.intro (show Int.negSucc 2147483647 ≤ (((10 * (σ 12 14)) + (vand (σ 51 (σ 12 4)) 255)) - 48) ∧ (((10 * (σ 12 14)) + (vand (σ 51 (σ 12 4)) 255)) - 48) ≤ 2147483647 from rgm (by omega)) ?_
                refine And.intro (show -2147483648 ≤ ((σ 12 13) + 1) ∧ ((σ 12 13) + 1) ≤ 2147483647 from by omega) ?_
                refine And.intro (show Int.negSucc 2147483647 ≤ ((σ 12 13) + 1) ∧ ((σ 12 13) + 1) ≤ 2147483647 from rgm (by omega)) ?_
                refine And.intro (show -2147483648 ≤ ((σ 12 4) + 1) ∧ ((σ 12 4) + 1) ≤ 2147483647 from by omega) ?_
                refine And.intro (show 0 ≤ ((σ 12 4) + 1) ∧ ((σ 12 4) + 1) ≤ 940 from by omega) ?_
                first
                | (exfalso; omega)
                | (show zG E gjl md271 w gm_271 181 [(0, .inr (.inl 12)), (2, .inl sm), (3, .inl 0)] (vup (vup (vup σ 12 14 (((10 * (σ 12 14)) + (vand (σ 51 (σ 12 4)) 255)) - 48)) 12 13 ((σ 12 13) + 1)) 12 4 ((σ 12 4) + 1)) K; exact hN _ _ (show σ 12 4 < (σ 12 4) + 1 from by omega) (zfr_up (zfr_up (zfr_up hf (by decide)) (by decide)) (by decide)) (Or.inl (show p0 + 1 ≤ (σ 12 4) + 1 from by omega)) (show 0 ≤ (σ 12 13) + 1 ∧ (σ 12 13) + 1 ≤ (σ 12 4) + 1 from by omega) (show (σ 12 13) + 1 = 0 → ((10 * (σ 12 14)) + (vand (σ 51 (σ 12 4)) 255)) - 48 = 0 from fun q => by omega) (show (σ 12 13) + 1 = 1 → 0 ≤ ((10 * (σ 12 14)) + (vand (σ 51 (σ 12 4)) 255)) - 48 ∧ ((10 * (σ 12 14)) + (vand (σ 51 (σ 12 4)) 255)) - 48 ≤ 74 from fun q => by omega) (by omega) (by omega))
          · have f61 : (-2147483648) ≤ σ 12 13 ∧ σ 12 13 ≤ 2147483647 := zf B hb (t := 12) (f := 13) (by decide +kernel)
            refine And.intro (fun (c62 : 7 ≤ (σ 12 13)) => ?_) (fun (c63 : (σ 12 13) < 7) => ?_)
            · refine And.intro (fun _ => ?_) (fun (q : (σ 12 13) < 2) => (by exfalso; omega))
              refine And.intro (show -2147483648 ≤ ((σ 12 13) + 1) ∧ ((σ 12 13) + 1) ≤ 2147483647 from by omega) ?_
              refine And.intro (show Int.negSucc 2147483647 ≤ ((σ 12 13) + 1) ∧ ((σ 12 13) + 1) ≤ 2147483647 from rgm (by omega)) ?_
              refine And.intro (show -2147483648 ≤ ((σ 12 4) + 1) ∧ ((σ 12 4) + 1) ≤ 2147483647 from by omega) ?_
              refine And.intro (show 0 ≤ ((σ 12 4) + 1) ∧ ((σ 12 4) + 1) ≤ 940 from by omega) ?_
              first
              | (exfalso; omega)
              | (show zG E gjl md271 w gm_271 181 [(0, .inr (.inl 12)), (2, .inl sm), (3, .inl 1)] (vup (vup σ 12 13 ((σ 12 13) + 1)) 12 4 ((σ 12 4) + 1)) K; exact hN _ _ (show σ 12 4 < (σ 12 4) + 1 from by omega) (zfr_up (zfr_up hf (by decide)) (by decide)) (Or.inl (show p0 + 1 ≤ (σ 12 4) + 1 from by omega)) (show 0 ≤ (σ 12 13) + 1 ∧ (σ 12 13) + 1 ≤ (σ 12 4) + 1 from by omega) (show (σ 12 13) + 1 = 0 → σ 12 14 = 0 from fun q => by omega) (show (σ 12 13) + 1 = 1 → 0 ≤ σ 12 14 ∧ σ 12 14 ≤ 74 from fun q => by omega) (by omega) (by omega))
            · refine And.intro (fun (q : (σ 12 3) ≤ (σ 12 4)) => (by exfalso; omega)) (fun _ => ?_)
              refine And.intro (show 0 ≤ (σ 12 4) ∧ (σ 12 4) < 940 from by omega) ?_
              refine And.intro (fun (c64 : 2 ≤ (σ 12 13)) => ?_) (fun (c65 : (σ 12 13) < 2) => ?_)
              · refine And.intro (show -2147483648 ≤ ((σ 12 13) + 1) ∧ ((σ 12 13) + 1) ≤ 2147483647 from by omega) ?_
                refine And.intro (show Int.negSucc 2147483647 ≤ ((σ 12 13) + 1) ∧ ((σ 12 13) + 1) ≤ 2147483647 from rgm (by omega)) ?_
                refine And.intro (show -2147483648 ≤ ((σ 12 4) + 1) ∧ ((σ 12 4) + 1) ≤ 2147483647 from by omega) ?_
                refine And.intro (show 0 ≤ ((σ 12 4) + 1) ∧ ((σ 12 4) + 1) ≤ 940 from by omega) ?_
                first
                | (exfalso; omega)
                | (show zG E gjl md271 w gm_271 181 [(0, .inr (.inl 12)), (2, .inl sm), (3, .inl 1)] (vup (vup σ 12 13 ((σ 12 13) + 1)) 12 4 ((σ 12 4) + 1)) K; exact hN _ _ (show σ 12 4 < (σ 12 4) + 1 from by omega) (zfr_up (zfr_up hf (by decide)) (by decide)) (Or.inl (show p0 + 1 ≤ (σ 12 4) + 1 from by omega)) (show 0 ≤ (σ 12 13) + 1 ∧ (σ 12 13) + 1 ≤ (σ 12 4) + 1 from by omega) (show (σ 12 13) + 1 = 0 → σ 12 14 = 0 from fun q => by omega) (show (σ 12 13) + 1 = 1 → 0 ≤ σ 12 14 ∧ σ 12 14 ≤ 74 from fun q => by omega) (by omega) (by omega))
              · have f66 : (-2147483648) ≤ σ 12 14 ∧ σ 12 14 ≤ 2147483647 := zf B hb (t := 12) (f := 14) (by decide +kernel)
                refine And.intro (show -2147483648 ≤ (10 * (σ 12 14)) ∧ (10 * (σ 12 14)) ≤ 2147483647 from by omega) ?_
                refine And.intro (fun (q : (σ 12 3) ≤ (σ 12 4)) => (by exfalso; omega)) (fun _ => ?_)
                refine And.intro (show 0 ≤ (σ 12 4) ∧ (σ 12 4) < 940 from by omega) ?_
                refine And.intro (show -2147483648 ≤ ((10 * (σ 12 14)) + (vand (σ 51 (σ 12 4)) 255)) ∧ ((10 * (σ 12 14)) + (vand (σ 51 (σ 12 4)) 255)) ≤ 2147483647 from by omega) ?_
                refine And.intro (show -2147483648 ≤ (((10 * (σ 12 14)) + (vand (σ 51 (σ 12 4)) 255)) - 48) ∧ (((10 * (σ 12 14)) + (vand (σ 51 (σ 12 4)) 255)) - 48) ≤ 2147483647 from by omega) ?_
                refine And.intro (show Int.negSucc 2147483647 ≤ (((10 * (σ 12 14)) + (vand (σ 51 (σ 12 4)) 255)) - 48) ∧ (((10 * (σ 12 14)) + (vand (σ 51 (σ 12 4)) 255)) - 48) ≤ 2147483647 from rgm (by omega)) ?_
                refine And.intro (show -2147483648 ≤ ((σ 12 13) + 1) ∧ ((σ 12 13) + 1) ≤ 2147483647 from by omega) ?_
                refine And.intro (show Int.negSucc 2147483647 ≤ ((σ 12 13) + 1) ∧ ((σ 12 13) + 1) ≤ 2147483647 from rgm (by omega)) ?_
                refine And.intro (show -2147483648 ≤ ((σ 12 4) + 1) ∧ ((σ 12 4) + 1) ≤ 2147483647 from by omega) ?_
                refine And.intro (show 0 ≤ ((σ 12 4) + 1) ∧ ((σ 12 4) + 1) ≤ 940 from by omega) ?_
                first
                | (exfalso; omega)
                | (show zG E gjl md271 w gm_271 181 [(0, .inr (.inl 12)), (2, .inl sm), (3, .inl 1)] (vup (vup (vup σ 12 14 (((10 * (σ 12 14)) + (vand (σ 51 (σ 12 4)) 255)) - 48)) 12 13 ((σ 12 13) + 1)) 12 4 ((σ 12 4) + 1)) K; exact hN _ _ (show σ 12 4 < (σ 12 4) + 1 from by omega) (zfr_up (zfr_up (zfr_up hf (by decide)) (by decide)) (by decide)) (Or.inl (show p0 + 1 ≤ (σ 12 4) + 1 from by omega)) (show 0 ≤ (σ 12 13) + 1 ∧ (σ 12 13) + 1 ≤ (σ 12 4) + 1 from by omega) (show (σ 12 13) + 1 = 0 → ((10 * (σ 12 14)) + (vand (σ 51 (σ 12 4)) 255)) - 48 = 0 from fun q => by omega) (show (σ 12 13) + 1 = 1 → 0 ≤ ((10 * (σ 12 14)) + (vand (σ 51 (σ 12 4)) 255)) - 48 ∧ ((10 * (σ 12 14)) + (vand (σ 51 (σ 12 4)) 255)) - 48 ≤ 74 from fun q => by omega) (by omega) (by omega))
        · refine And.intro (show 0 ≤ 1 ∧ 1 ≤ 1 from by omega) ?_
          refine And.intro (fun (c67 : ¬ 1 = sm) => ?_) (fun (c68 : 1 = sm) => ?_)
          · have f69 : (-2147483648) ≤ σ 12 13 ∧ σ 12 13 ≤ 2147483647 := zf B hb (t := 12) (f := 13) (by decide +kernel)
            refine And.intro (fun (c70 : 7 ≤ (σ 12 13)) => ?_) (fun (c71 : (σ 12 13) < 7) => ?_)
            · refine And.intro (fun _ => ?_) (fun (q : (σ 12 13) < 2) => (by exfalso; omega))
              refine And.intro (show -2147483648 ≤ ((σ 12 13) + 1) ∧ ((σ 12 13) + 1) ≤ 2147483647 from by omega) ?_
              refine And.intro (show Int.negSucc 2147483647 ≤ ((σ 12 13) + 1) ∧ ((σ 12 13) + 1) ≤ 2147483647 from rgm (by omega)) ?_
              refine And.intro (show -2147483648 ≤ ((σ 12 4) + 1) ∧ ((σ 12 4) + 1) ≤ 2147483647 from by omega) ?_
              refine And.intro (show 0 ≤ ((σ 12 4) + 1) ∧ ((σ 12 4) + 1) ≤ 940 from by omega) ?_
              first
              | (exfalso; omega)
              | (show zG E gjl md271 w gm_271 181 [(0, .inr (.inl 12)), (2, .inl sm), (3, .inl 0)] (vup (vup σ 12 13 ((σ 12 13) + 1)) 12 4 ((σ 12 4) + 1)) K; exact hN _ _ (show σ 12 4 < (σ 12 4) + 1 from by omega) (zfr_up (zfr_up hf (by decide)) (by decide)) (Or.inl (show p0 + 1 ≤ (σ 12 4) + 1 from by omega)) (show 0 ≤ (σ 12 13) + 1 ∧ (σ 12 13) + 1 ≤ (σ 12 4) + 1 from by omega) (show (σ 12 13) + 1 = 0 → σ 12 14 = 0 from fun q => by omega) (show (σ 12 13) + 1 = 1 → 0 ≤ σ 12 14 ∧ σ 12 14 ≤ 74 from fun q => by omega) (by omega) (by omega))
            · refine And.intro (fun (q : (σ 12 3) ≤ (σ 12 4)) => (by exfalso; omega)) (fun _ => ?_)
              refine And.intro (show 0 ≤ (σ 12 4) ∧ (σ 12 4) < 940 from by omega) ?_
              refine And.intro (fun (c72 : 2 ≤ (σ 12 13)) => ?_) (fun (c73 : (σ 12 13) < 2) => ?_)
              · refine And.intro (show -2147483648 ≤ ((σ 12 13) + 1) ∧ ((σ 12 13) + 1) ≤ 2147483647 from by omega) ?_
                refine And.intro (show Int.negSucc 2147483647 ≤ ((σ 12 13) + 1) ∧ ((σ 12 13) + 1) ≤ 2147483647 from rgm (by omega)) ?_
                refine And.intro (show -2147483648 ≤ ((σ 12 4) + 1) ∧ ((σ 12 4) + 1) ≤ 2147483647 from by omega) ?_
                refine And.intro (show 0 ≤ ((σ 12 4) + 1) ∧ ((σ 12 4) + 1) ≤ 940 from by omega) ?_
                first
                | (exfalso; omega)
                | (show zG E gjl md271 w gm_271 181 [(0, .inr (.inl 12)), (2, .inl sm), (3, .inl 0)] (vup (vup σ 12 13 ((σ 12 13) + 1)) 12 4 ((σ 12 4) + 1)) K; exact hN _ _ (show σ 12 4 < (σ 12 4) + 1 from by omega) (zfr_up (zfr_up hf (by decide)) (by decide)) (Or.inl (show p0 + 1 ≤ (σ 12 4) + 1 from by omega)) (show 0 ≤ (σ 12 13) + 1 ∧ (σ 12 13) + 1 ≤ (σ 12 4) + 1 from by omega) (show (σ 12 13) + 1 = 0 → σ 12 14 = 0 from fun q => by omega) (show (σ 12 13) + 1 = 1 → 0 ≤ σ 12 14 ∧ σ 12 14 ≤ 74 from fun q => by omega) (by omega) (by omega))
              · have f74 : (-2147483648) ≤ σ 12 14 ∧ σ 12 14 ≤ 2147483647 := zf B hb (t := 12) (f := 14) (by decide +kernel)
                refine And.intro (show -2147483648 ≤ (10 * (σ 12 14)) ∧ (10 * (σ 12 14)) ≤ 2147483647 from by omega) ?_
                refine And.intro (fun (q : (σ 12 3) ≤ (σ 12 4)) => (by exfalso; omega)) (fun _ => ?_)
                refine And.intro (show 0 ≤ (σ 12 4) ∧ (σ 12 4) < 940 from by omega) ?_
                refine And.intro (show -2147483648 ≤ ((10 * (σ 12 14)) + (vand (σ 51 (σ 12 4)) 255)) ∧ ((10 * (σ 12 14)) + (vand (σ 51 (σ 12 4)) 255)) ≤ 2147483647 from by omega) ?_
                refine And.intro (show -2147483648 ≤ (((10 * (σ 12 14)) + (vand (σ 51 (σ 12 4)) 255)) - 48) ∧ (((10 * (σ 12 14)) + (vand (σ 51 (σ 12 4)) 255)) - 48) ≤ 2147483647 from by omega) ?_
                refine And.intro (show Int.negSucc 2147483647 ≤ (((10 * (σ 12 14)) + (vand (σ 51 (σ 12 4)) 255)) - 48) ∧ (((10 * (σ 12 14)) + (vand (σ 51 (σ 12 4)) 255)) - 48) ≤ 2147483647 from rgm (by omega)) ?_
                refine And.intro (show -2147483648 ≤ ((σ 12 13) + 1) ∧ ((σ 12 13) + 1) ≤ 2147483647 from by omega) ?_
                refine And.intro (show Int.negSucc 2147483647 ≤ ((σ 12 13) + 1) ∧ ((σ 12 13) + 1) ≤ 2147483647 from rgm (by omega)) ?_
                refine And.intro (show -2147483648 ≤ ((σ 12 4) + 1) ∧ ((σ 12 4) + 1) ≤ 2147483647 from by omega) ?_
                refine And.intro (show 0 ≤ ((σ 12 4) + 1) ∧ ((σ 12 4) + 1) ≤ 940 from by omega) ?_
                first
                | (exfalso; omega)
                | (show zG E gjl md271 w gm_271 181 [(0, .inr (.inl 12)), (2, .inl sm), (3, .inl 0)] (vup (vup (vup σ 12 14 (((10 * (σ 12 14)) + (vand (σ 51 (σ 12 4)) 255)) - 48)) 12 13 ((σ 12 13) + 1)) 12 4 ((σ 12 4) + 1)) K; exact hN _ _ (show σ 12 4 < (σ 12 4) + 1 from by omega) (zfr_up (zfr_up (zfr_up hf (by decide)) (by decide)) (by decide)) (Or.inl (show p0 + 1 ≤ (σ 12 4) + 1 from by omega)) (show 0 ≤ (σ 12 13) + 1 ∧ (σ 12 13) + 1 ≤ (σ 12 4) + 1 from by omega) (show (σ 12 13) + 1 = 0 → ((10 * (σ 12 14)) + (vand (σ 51 (σ 12 4)) 255)) - 48 = 0 from fun q => by omega) (show (σ 12 13) + 1 = 1 → 0 ≤ ((10 * (σ 12 14)) + (vand (σ 51 (σ 12 4)) 255)) - 48 ∧ ((10 * (σ 12 14)) + (vand (σ 51 (σ 12 4)) 255)) - 48 ≤ 74 from fun q => by omega) (by omega) (by omega))
          · have f75 : (-2147483648) ≤ σ 12 13 ∧ σ 12 13 ≤ 2147483647 := zf B hb (t := 12) (f := 13) (by decide +kernel)
            refine And.intro (fun (c76 : 7 ≤ (σ 12 13)) => ?_) (fun (c77 : (σ 12 13) < 7) => ?_)
            · refine And.intro (fun _ => ?_) (fun (q : (σ 12 13) < 2) => (by exfalso; omega))
              refine And.intro (show -2147483648 ≤ ((σ 12 13) + 1) ∧ ((σ 12 13) + 1) ≤ 2147483647 from by omega) ?_
              refine And.intro (show Int.negSucc 2147483647 ≤ ((σ 12 13) + 1) ∧ ((σ 12 13) + 1) ≤ 2147483647 from rgm (by omega)) ?_
              refine And.intro (show -2147483648 ≤ ((σ 12 4) + 1) ∧ ((σ 12 4) + 1) ≤ 2147483647 from by omega) ?_
              refine And.intro (show 0 ≤ ((σ 12 4) + 1) ∧ ((σ 12 4) + 1) ≤ 940 from by omega) ?_
              first
              | (exfalso; omega)
              | (show zG E gjl md271 w gm_271 181 [(0, .inr (.inl 12)), (2, .inl sm), (3, .inl 1)] (vup (vup σ 12 13 ((σ 12 13) + 1)) 12 4 ((σ 12 4) + 1)) K; exact hN _ _ (show σ 12 4 < (σ 12 4) + 1 from by omega) (zfr_up (zfr_up hf (by decide)) (by decide)) (Or.inl (show p0 + 1 ≤ (σ 12 4) + 1 from by omega)) (show 0 ≤ (σ 12 13) + 1 ∧ (σ 12 13) + 1 ≤ (σ 12 4) + 1 from by omega) (show (σ 12 13) + 1 = 0 → σ 12 14 = 0 from fun q => by omega) (show (σ 12 13) + 1 = 1 → 0 ≤ σ 12 14 ∧ σ 12 14 ≤ 74 from fun q => by omega) (by omega) (by omega))
            · refine And.intro (fun (q : (σ 12 3) ≤ (σ 12 4)) => (by exfalso; omega)) (fun _ => ?_)
              refine And.intro (show 0 ≤ (σ 12 4) ∧ (σ 12 4) < 940 from by omega) ?_
              refine And.intro (fun (c78 : 2 ≤ (σ 12 13)) => ?_) (fun (c79 : (σ 12 13) < 2) => ?_)
              · refine And.intro (show -2147483648 ≤ ((σ 12 13) + 1) ∧ ((σ 12 13) + 1) ≤ 2147483647 from by omega) ?_
                refine And.intro (show Int.negSucc 2147483647 ≤ ((σ 12 13) + 1) ∧ ((σ 12 13) + 1) ≤ 2147483647 from rgm (by omega)) ?_
                refine And.intro (show -2147483648 ≤ ((σ 12 4) + 1) ∧ ((σ 12 4) + 1) ≤ 2147483647 from by omega) ?_
                refine And.intro (show 0 ≤ ((σ 12 4) + 1) ∧ ((σ 12 4) + 1) ≤ 940 from by omega) ?_
                first
                | (exfalso; omega)
                | (show zG E gjl md271 w gm_271 181 [(0, .inr (.inl 12)), (2, .inl sm), (3, .inl 1)] (vup (vup σ 12 13 ((σ 12 13) + 1)) 12 4 ((σ 12 4) + 1)) K; exact hN _ _ (show σ 12 4 < (σ 12 4) + 1 from by omega) (zfr_up (zfr_up hf (by decide)) (by decide)) (Or.inl (show p0 + 1 ≤ (σ 12 4) + 1 from by omega)) (show 0 ≤ (σ 12 13) + 1 ∧ (σ 12 13) + 1 ≤ (σ 12 4) + 1 from by omega) (show (σ 12 13) + 1 = 0 → σ 12 14 = 0 from fun q => by omega) (show (σ 12 13) + 1 = 1 → 0 ≤ σ 12 14 ∧ σ 12 14 ≤ 74 from fun q => by omega) (by omega) (by omega))
              · have f80 : (-2147483648) ≤ σ 12 14 ∧ σ 12 14 ≤ 2147483647 := zf B hb (t := 12) (f := 14) (by decide +kernel)
                refine And.intro (show -2147483648 ≤ (10 * (σ 12 14)) ∧ (10 * (σ 12 14)) ≤ 2147483647 from by omega) ?_
                refine And.intro (fun (q : (σ 12 3) ≤ (σ 12 4)) => (by exfalso; omega)) (fun _ => ?_)
                refine And.intro (show 0 ≤ (σ 12 4) ∧ (σ 12 4) < 940 from by omega) ?_
                refine And.intro (show -2147483648 ≤ ((10 * (σ 12 14)) + (vand (σ 51 (σ 12 4)) 255)) ∧ ((10 * (σ 12 14)) + (vand (σ 51 (σ 12 4)) 255)) ≤ 2147483647 from by omega) ?_
                refine And.intro (show -2147483648 ≤ (((10 * (σ 12 14)) + (vand (σ 51 (σ 12 4)) 255)) - 48) ∧ (((10 * (σ 12 14)) + (vand (σ 51 (σ 12 4)) 255)) - 48) ≤ 2147483647 from by omega) ?_
                refine And.intro (show Int.negSucc 2147483647 ≤ (((10 * (σ 12 14)) + (vand (σ 51 (σ 12 4)) 255)) - 48) ∧ (((10 * (σ 12 14)) + (vand (σ 51 (σ 12 4)) 255)) - 48) ≤ 2147483647 from rgm (by omega)) ?_
                refine And.intro (show -2147483648 ≤ ((σ 12 13) + 1) ∧ ((σ 12 13) + 1) ≤ 2147483647 from by omega) ?_
                refine And.intro (show Int.negSucc 2147483647 ≤ ((σ 12 13) + 1) ∧ ((σ 12 13) + 1) ≤ 2147483647 from rgm (by omega)) ?_
                refine And.intro (show -2147483648 ≤ ((σ 12 4) + 1) ∧ ((σ 12 4) + 1) ≤ 2147483647 from by omega) ?_
                refine And.intro (show 0 ≤ ((σ 12 4) + 1) ∧ ((σ 12 4) + 1) ≤ 940 from by omega) ?_
                first
                | (exfalso; omega)
                | (show zG E gjl md271 w gm_271 181 [(0, .inr (.inl 12)), (2, .inl sm), (3, .inl 1)] (vup (vup (vup σ 12 14 (((10 * (σ 12 14)) + (vand (σ 51 (σ 12 4)) 255)) - 48)) 12 13 ((σ 12 13) + 1)) 12 4 ((σ 12 4) + 1)) K; exact hN _ _ (show σ 12 4 < (σ 12 4) + 1 from by omega) (zfr_up (zfr_up (zfr_up hf (by decide)) (by decide)) (by decide)) (Or.inl (show p0 + 1 ≤ (σ 12 4) + 1 from by omega)) (show 0 ≤ (σ 12 13) + 1 ∧ (σ 12 13) + 1 ≤ (σ 12 4) + 1 from by omega) (show (σ 12 13) + 1 = 0 → ((10 * (σ 12 14)) + (vand (σ 51 (σ 12 4)) 255)) - 48 = 0 from fun q => by omega) (show (σ 12 13) + 1 = 1 → 0 ≤ ((10 * (σ 12 14)) + (vand (σ 51 (σ 12 4)) 255)) - 48 ∧ ((10 * (σ 12 14)) + (vand (σ 51 (σ 12 4)) 255)) - 48 ≤ 74 from fun q => by omega) (by omega) (by omega))
theorem z_sk2b (B : zB E) {σ0 : vS} {p0 : Int} (hK : ∀ σ : vS, zfr [12] σ0 σ → ((p0 ≤ σ 12 4 ∧ (σ 12 11 = 0 ∨ σ 12 11 = 4)) ∨ (p0 + 1 ≤ σ 12 4 ∧ 1 ≤ σ 12 11 ∧ σ 12 11 ≤ 4)) → K none σ) {sm : Int} : ∀ (m : Nat) (al : Int) (σ : vS), 940 - σ 12 4 < (m : Int) → zfr [12] σ0 σ → (p0 + 1 ≤ σ 12 4 ∨ (p0 ≤ σ 12 4 ∧ σ 12 4 < σ 12 3 ∧ ((97 ≤ vand (σ 51 (σ 12 4)) 255 ∧ vand (σ 51 (σ 12 4)) 255 ≤ 122) ∨ (48 ≤ vand (σ 51 (σ 12 4)) 255 ∧ vand (σ 51 (σ 12 4)) 255 ≤ 57)))) → (0 ≤ σ 12 13 ∧ σ 12 13 ≤ σ 12 4) → (σ 12 13 = 0 → σ 12 14 = 0) → (σ 12 13 = 1 → 0 ≤ σ 12 14 ∧ σ 12 14 ≤ 74) → (0 ≤ sm ∧ sm ≤ 1) → (0 ≤ al ∧ al ≤ 1) → zG E gjl md271 w gm_271 181 [(0, .inr (.inl 12)), (2, .inl sm), (3, .inl al)] σ K := by
  intro m
  induction m with
  | zero =>
    intro al σ hm hf hq h1 h2 h3 h4 h5
    refine zbd (fun hb => ?_)
    have f : 0 ≤ σ 12 4 ∧ σ 12 4 ≤ 940 := zf B hb (t := 12) (f := 4) (by decide +kernel)
    omega
  | succ m ih =>
    intro al σ hm hf hq h1 h2 h3 h4 h5
    refine zbd (fun hb => zgo B zS_nil [] [(0, [0]), (181, [0, 2, 3]), (201, [0, 2, 3])] (fun m => Nat.beq m.2.2.2.2.2.1 0) (by decide +kernel) ?_)
    have f1 : 0 ≤ σ 12 4 ∧ σ 12 4 ≤ 940 := zf B hb (t := 12) (f := 4) (by decide +kernel)
    have f2 : 0 ≤ σ 12 3 ∧ σ 12 3 ≤ 940 := zf B hb (t := 12) (f := 3) (by decide +kernel)
    refine And.intro (fun (c3 : (σ 12 3) ≤ (σ 12 4)) => ?_) (fun (c4 : (σ 12 4) < (σ 12 3)) => ?_)
    · refine And.intro (fun _ => ?_) (fun (q : 97 ≤ (-1)) => absurd q (by decide))
      refine And.intro (show 0 ≤ 0 ∧ 0 ≤ 1 from by omega) ?_
      refine And.intro (fun (q : ¬ 0 = 0) => absurd q (by decide)) (fun _ => ?_)
      refine And.intro (fun _ => ?_) (fun (q : (σ 12 4) < (σ 12 3)) => (by exfalso; omega))
      refine And.intro (fun _ => ?_) (fun (q : 48 ≤ (-1)) => absurd q (by decide))
      refine And.intro (show 0 ≤ 0 ∧ 0 ≤ 1 from by omega) ?_
      refine And.intro (fun _ => ?_) (fun (q : ¬ 0 = 0) => absurd q (by decide))
      refine And.intro (fun (c5 : al = 0) => ?_) (fun (c6 : ¬ al = 0) => ?_)
      · refine And.intro (show 0 ≤ 4 ∧ 4 ≤ 4 from by omega) ?_
        first
        | (exfalso; omega)
        | exact hK _ (zfr_up hf (by decide)) (show (p0 ≤ σ 12 4 ∧ (4 = 0 ∨ 4 = 4)) ∨ (p0 + 1 ≤ σ 12 4 ∧ 1 ≤ 4 ∧ 4 ≤ 4) from by omega)
      · have f7 : (-2147483648) ≤ σ 12 13 ∧ σ 12 13 ≤ 2147483647 := zf B hb (t := 12) (f := 13) (by decide +kernel)
        refine And.intro (fun (c8 : sm = 0) => ?_) (fun (c9 : ¬ sm = 0) => ?_)
        · refine And.intro (fun (c10 : (σ 12 13) ≤ 2) => ?_) (fun (c11 : 2 < (σ 12 13)) => ?_)
          · refine And.intro (fun _ => ?_) (fun (q : ¬ sm = 0) => (by exfalso; omega))
            refine And.intro (show 0 ≤ 2 ∧ 2 ≤ 4 from by omega) ?_
            first
            | (exfalso; omega)
            | exact hK _ (zfr_up hf (by decide)) (show (p0 ≤ σ 12 4 ∧ (2 = 0 ∨ 2 = 4)) ∨ (p0 + 1 ≤ σ 12 4 ∧ 1 ≤ 2 ∧ 2 ≤ 4) from by omega)
          · refine And.intro (show 0 ≤ 4 ∧ 4 ≤ 4 from by omega) ?_
            first
            | (exfalso; omega)
            | exact hK _ (zfr_up hf (by decide)) (show (p0 ≤ σ 12 4 ∧ (4 = 0 ∨ 4 = 4)) ∨ (p0 + 1 ≤ σ 12 4 ∧ 1 ≤ 4 ∧ 4 ≤ 4) from by omega)
        · refine And.intro (fun (c12 : (σ 12 13) ≤ 7) => ?_) (fun (c13 : 7 < (σ 12 13)) => ?_)
          · refine And.intro (fun (c14 : sm = 0) => ?_) (fun (c15 : ¬ sm = 0) => ?_)
            · refine And.intro (show 0 ≤ 2 ∧ 2 ≤ 4 from by omega) ?_
              first
              | (exfalso; omega)
              | exact hK _ (zfr_up hf (by decide)) (show (p0 ≤ σ 12 4 ∧ (2 = 0 ∨ 2 = 4)) ∨ (p0 + 1 ≤ σ 12 4 ∧ 1 ≤ 2 ∧ 2 ≤ 4) from by omega)
            · refine And.intro (show 0 ≤ 1 ∧ 1 ≤ 4 from by omega) ?_
              first
              | (exfalso; omega)
              | exact hK _ (zfr_up hf (by decide)) (show (p0 ≤ σ 12 4 ∧ (1 = 0 ∨ 1 = 4)) ∨ (p0 + 1 ≤ σ 12 4 ∧ 1 ≤ 1 ∧ 1 ≤ 4) from by omega)
          · refine And.intro (show 0 ≤ 4 ∧ 4 ≤ 4 from by omega) ?_
            first
            | (exfalso; omega)
            | exact hK _ (zfr_up hf (by decide)) (show (p0 ≤ σ 12 4 ∧ (4 = 0 ∨ 4 = 4)) ∨ (p0 + 1 ≤ σ 12 4 ∧ 1 ≤ 4 ∧ 4 ≤ 4) from by omega)
    · refine And.intro (show 0 ≤ (σ 12 4) ∧ (σ 12 4) < 940 from by omega) ?_
      refine And.intro (fun (c16 : (vand (σ 51 (σ 12 4)) 255) < 97) => ?_) (fun (c17 : 97 ≤ (vand (σ 51 (σ 12 4)) 255)) => ?_)
      · refine And.intro (show 0 ≤ 0 ∧ 0 ≤ 1 from by omega) ?_
        refine And.intro (fun (q : ¬ 0 = 0) => absurd q (by decide)) (fun _ => ?_)
        refine And.intro (fun (q : (σ 12 3) ≤ (σ 12 4)) => (by exfalso; omega)) (fun _ => ?_)
        refine And.intro (show 0 ≤ (σ 12 4) ∧ (σ 12 4) < 940 from by omega) ?_
        refine And.intro (fun (c18 : (vand (σ 51 (σ 12 4)) 255) < 48) => ?_) (fun (c19 : 48 ≤ (vand (σ 51 (σ 12 4)) 255)) => ?_)
        · refine And.intro (show 0 ≤ 0 ∧ 0 ≤ 1 from by omega) ?_
          refine And.intro (fun _ => ?_) (fun (q : ¬ 0 = 0) => absurd q (by decide))
          refine And.intro (fun (c20 : al = 0) => ?_) (fun (c21 : ¬ al = 0) => ?_)
          · refine And.intro (show 0 ≤ 4 ∧ 4 ≤ 4 from by omega) ?_
            first
            | (exfalso; omega)
            | exact hK _ (zfr_up hf (by decide)) (show (p0 ≤ σ 12 4 ∧ (4 = 0 ∨ 4 = 4)) ∨ (p0 + 1 ≤ σ 12 4 ∧ 1 ≤ 4 ∧ 4 ≤ 4) from by omega)
          · have f22 : (-2147483648) ≤ σ 12 13 ∧ σ 12 13 ≤ 2147483647 := zf B hb (t := 12) (f := 13) (by decide +kernel)
            refine And.intro (fun (c23 : sm = 0) => ?_) (fun (c24 : ¬ sm = 0) => ?_)
            · refine And.intro (fun (c25 : (σ 12 13) ≤ 2) => ?_) (fun (c26 : 2 < (σ 12 13)) => ?_)
              · refine And.intro (fun _ => ?_) (fun (q : ¬ sm = 0) => (by exfalso; omega))
                refine And.intro (show 0 ≤ 2 ∧ 2 ≤ 4 from by omega) ?_
                first
                | (exfalso; omega)
                | exact hK _ (zfr_up hf (by decide)) (show (p0 ≤ σ 12 4 ∧ (2 = 0 ∨ 2 = 4)) ∨ (p0 + 1 ≤ σ 12 4 ∧ 1 ≤ 2 ∧ 2 ≤ 4) from by omega)
              · refine And.intro (show 0 ≤ 4 ∧ 4 ≤ 4 from by omega) ?_
                first
                | (exfalso; omega)
                | exact hK _ (zfr_up hf (by decide)) (show (p0 ≤ σ 12 4 ∧ (4 = 0 ∨ 4 = 4)) ∨ (p0 + 1 ≤ σ 12 4 ∧ 1 ≤ 4 ∧ 4 ≤ 4) from by omega)
            · refine And.intro (fun (c27 : (σ 12 13) ≤ 7) => ?_) (fun (c28 : 7 < (σ 12 13)) => ?_)
              · refine And.intro (fun (c29 : sm = 0) => ?_) (fun (c30 : ¬ sm = 0) => ?_)
                · refine And.intro (show 0 ≤ 2 ∧ 2 ≤ 4 from by omega) ?_
                  first
                  | (exfalso; omega)
                  | exact hK _ (zfr_up hf (by decide)) (show (p0 ≤ σ 12 4 ∧ (2 = 0 ∨ 2 = 4)) ∨ (p0 + 1 ≤ σ 12 4 ∧ 1 ≤ 2 ∧ 2 ≤ 4) from by omega)
                · refine And.intro (show 0 ≤ 1 ∧ 1 ≤ 4 from by omega) ?_
                  first
                  | (exfalso; omega)
                  | exact hK _ (zfr_up hf (by decide)) (show (p0 ≤ σ 12 4 ∧ (1 = 0 ∨ 1 = 4)) ∨ (p0 + 1 ≤ σ 12 4 ∧ 1 ≤ 1 ∧ 1 ≤ 4) from by omega)
              · refine And.intro (show 0 ≤ 4 ∧ 4 ≤ 4 from by omega) ?_
                first
                | (exfalso; omega)
                | exact hK _ (zfr_up hf (by decide)) (show (p0 ≤ σ 12 4 ∧ (4 = 0 ∨ 4 = 4)) ∨ (p0 + 1 ≤ σ 12 4 ∧ 1 ≤ 4 ∧ 4 ≤ 4) from by omega)
        · refine And.intro (fun (c31 : 57 < (vand (σ 51 (σ 12 4)) 255)) => ?_) (fun (c32 : (vand (σ 51 (σ 12 4)) 255) ≤ 57) => ?_)
          · refine And.intro (show 0 ≤ 0 ∧ 0 ≤ 1 from by omega) ?_
            refine And.intro (fun _ => ?_) (fun (q : ¬ 0 = 0) => absurd q (by decide))
            refine And.intro (fun (c33 : al = 0) => ?_) (fun (c34 : ¬ al = 0) => ?_)
            · refine And.intro (show 0 ≤ 4 ∧ 4 ≤ 4 from by omega) ?_
              first
              | (exfalso; omega)
              | exact hK _ (zfr_up hf (by decide)) (show (p0 ≤ σ 12 4 ∧ (4 = 0 ∨ 4 = 4)) ∨ (p0 + 1 ≤ σ 12 4 ∧ 1 ≤ 4 ∧ 4 ≤ 4) from by omega)
            · have f35 : (-2147483648) ≤ σ 12 13 ∧ σ 12 13 ≤ 2147483647 := zf B hb (t := 12) (f := 13) (by decide +kernel)
              refine And.intro (fun (c36 : sm = 0) => ?_) (fun (c37 : ¬ sm = 0) => ?_)
              · refine And.intro (fun (c38 : (σ 12 13) ≤ 2) => ?_) (fun (c39 : 2 < (σ 12 13)) => ?_)
                · refine And.intro (fun _ => ?_) (fun (q : ¬ sm = 0) => (by exfalso; omega))
                  refine And.intro (show 0 ≤ 2 ∧ 2 ≤ 4 from by omega) ?_
                  first
                  | (exfalso; omega)
                  | exact hK _ (zfr_up hf (by decide)) (show (p0 ≤ σ 12 4 ∧ (2 = 0 ∨ 2 = 4)) ∨ (p0 + 1 ≤ σ 12 4 ∧ 1 ≤ 2 ∧ 2 ≤ 4) from by omega)
                · refine And.intro (show 0 ≤ 4 ∧ 4 ≤ 4 from by omega) ?_
                  first
                  | (exfalso; omega)
                  | exact hK _ (zfr_up hf (by decide)) (show (p0 ≤ σ 12 4 ∧ (4 = 0 ∨ 4 = 4)) ∨ (p0 + 1 ≤ σ 12 4 ∧ 1 ≤ 4 ∧ 4 ≤ 4) from by omega)
              · refine And.intro (fun (c40 : (σ 12 13) ≤ 7) => ?_) (fun (c41 : 7 < (σ 12 13)) => ?_)
                · refine And.intro (fun (c42 : sm = 0) => ?_) (fun (c43 : ¬ sm = 0) => ?_)
                  · refine And.intro (show 0 ≤ 2 ∧ 2 ≤ 4 from by omega) ?_
                    first
                    | (exfalso; omega)
                    | exact hK _ (zfr_up hf (by decide)) (show (p0 ≤ σ 12 4 ∧ (2 = 0 ∨ 2 = 4)) ∨ (p0 + 1 ≤ σ 12 4 ∧ 1 ≤ 2 ∧ 2 ≤ 4) from by omega)
                  · refine And.intro (show 0 ≤ 1 ∧ 1 ≤ 4 from by omega) ?_
                    first
                    | (exfalso; omega)
                    | exact hK _ (zfr_up hf (by decide)) (show (p0 ≤ σ 12 4 ∧ (1 = 0 ∨ 1 = 4)) ∨ (p0 + 1 ≤ σ 12 4 ∧ 1 ≤ 1 ∧ 1 ≤ 4) from by omega)
                · refine And.intro (show 0 ≤ 4 ∧ 4 ≤ 4 from by omega) ?_
                  first
                  | (exfalso; omega)
                  | exact hK _ (zfr_up hf (by decide)) (show (p0 ≤ σ 12 4 ∧ (4 = 0 ∨ 4 = 4)) ∨ (p0 + 1 ≤ σ 12 4 ∧ 1 ≤ 4 ∧ 4 ≤ 4) from by omega)
          · refine And.intro (show 0 ≤ 1 ∧ 1 ≤ 1 from by omega) ?_
            refine And.intro (fun (q : 1 = 0) => absurd q (by decide)) (fun _ => ?_)
            first
            | (exfalso; omega)
            | (show zG E gjl md271 w gm_271 201 [(0, .inr (.inl 12)), (2, .inl sm), (3, .inl al)] σ K; exact z_sk3b B (fun al2 σ2 a0 a1 a2 a3 a4 a5 a6 a7 => ih al2 σ2 (by omega) a1 a2 a3 a4 a5 a6 a7) hf (by omega) (by omega) h1 h2 h3 h4 h5)
      · refine And.intro (fun (c44 : 122 < (vand (σ 51 (σ 12 4)) 255)) => ?_) (fun (c45 : (vand (σ 51 (σ 12 4)) 255) ≤ 122) => ?_)
        · refine And.intro (show 0 ≤ 0 ∧ 0 ≤ 1 from by omega) ?_
          refine And.intro (fun (q : ¬ 0 = 0) => absurd q (by decide)) (fun _ => ?_)
          refine And.intro (fun (q : (σ 12 3) ≤ (σ 12 4)) => (by exfalso; omega)) (fun _ => ?_)
          refine And.intro (show 0 ≤ (σ 12 4) ∧ (σ 12 4) < 940 from by omega) ?_
          refine And.intro (fun (q : (vand (σ 51 (σ 12 4)) 255) < 48) => (by exfalso; omega)) (fun _ => ?_)
          refine And.intro (fun _ => ?_) (fun (q : (vand (σ 51 (σ 12 4)) 255) ≤ 57) => (by exfalso; omega))
          refine And.intro (show 0 ≤ 0 ∧ 0 ≤ 1 from by omega) ?_
          refine And.intro (fun _ => ?_) (fun (q : ¬ 0 = 0) => absurd q (by decide))
          refine And.intro (fun (c46 : al = 0) => ?_) (fun (c47 : ¬ al = 0) => ?_)
          · refine And.intro (show 0 ≤ 4 ∧ 4 ≤ 4 from by omega) ?_
            first
            | (exfalso; omega)
            | exact hK _ (zfr_up hf (by decide)) (show (p0 ≤ σ 12 4 ∧ (4 = 0 ∨ 4 = 4)) ∨ (p0 + 1 ≤ σ 12 4 ∧ 1 ≤ 4 ∧ 4 ≤ 4) from by omega)
          · have f48 : (-2147483648) ≤ σ 12 13 ∧ σ 12 13 ≤ 2147483647 := zf B hb (t := 12) (f := 13) (by decide +kernel)
            refine And.intro (fun (c49 : sm = 0) => ?_) (fun (c50 : ¬ sm = 0) => ?_)
            · refine And.intro (fun (c51 : (σ 12 13) ≤ 2) => ?_) (fun (c52 : 2 < (σ 12 13)) => ?_)
              · refine And.intro (fun _ => ?_) (fun (q : ¬ sm = 0) => (by exfalso; omega))
                refine And.intro (show 0 ≤ 2 ∧ 2 ≤ 4 from by omega) ?_
                first
                | (exfalso; omega)
                | exact hK _ (zfr_up hf (by decide)) (show (p0 ≤ σ 12 4 ∧ (2 = 0 ∨ 2 = 4)) ∨ (p0 + 1 ≤ σ 12 4 ∧ 1 ≤ 2 ∧ 2 ≤ 4) from by omega)
              · refine And.intro (show 0 ≤ 4 ∧ 4 ≤ 4 from by omega) ?_
                first
                | (exfalso; omega)
                | exact hK _ (zfr_up hf (by decide)) (show (p0 ≤ σ 12 4 ∧ (4 = 0 ∨ 4 = 4)) ∨ (p0 + 1 ≤ σ 12 4 ∧ 1 ≤ 4 ∧ 4 ≤ 4) from by omega)
            · refine And.intro (fun (c53 : (σ 12 13) ≤ 7) => ?_) (fun (c54 : 7 < (σ 12 13)) => ?_)
              · refine And.intro (fun (c55 : sm = 0) => ?_) (fun (c56 : ¬ sm = 0) => ?_)
                · refine And.intro (show 0 ≤ 2 ∧ 2 ≤ 4 from by omega) ?_
                  first
                  | (exfalso; omega)
                  | exact hK _ (zfr_up hf (by decide)) (show (p0 ≤ σ 12 4 ∧ (2 = 0 ∨ 2 = 4)) ∨ (p0 + 1 ≤ σ 12 4 ∧ 1 ≤ 2 ∧ 2 ≤ 4) from by omega)
                · refine And.intro (show 0 ≤ 1 ∧ 1 ≤ 4 from by omega) ?_
                  first
                  | (exfalso; omega)
                  | exact hK _ (zfr_up hf (by decide)) (show (p0 ≤ σ 12 4 ∧ (1 = 0 ∨ 1 = 4)) ∨ (p0 + 1 ≤ σ 12 4 ∧ 1 ≤ 1 ∧ 1 ≤ 4) from by omega)
              · refine And.intro (show 0 ≤ 4 ∧ 4 ≤ 4 from by omega) ?_
                first
                | (exfalso; omega)
                | exact hK _ (zfr_up hf (by decide)) (show (p0 ≤ σ 12 4 ∧ (4 = 0 ∨ 4 = 4)) ∨ (p0 + 1 ≤ σ 12 4 ∧ 1 ≤ 4 ∧ 4 ≤ 4) from by omega)
        · refine And.intro (show 0 ≤ 1 ∧ 1 ≤ 1 from by omega) ?_
          refine And.intro (fun _ => ?_) (fun (q : 1 = 0) => absurd q (by decide))
          first
          | (exfalso; omega)
          | (show zG E gjl md271 w gm_271 201 [(0, .inr (.inl 12)), (2, .inl sm), (3, .inl al)] σ K; exact z_sk3b B (fun al2 σ2 a0 a1 a2 a3 a4 a5 a6 a7 => ih al2 σ2 (by omega) a1 a2 a3 a4 a5 a6 a7) hf (by omega) (by omega) h1 h2 h3 h4 h5)
theorem z_sk1b (B : zB E) {σ0 : vS} {p0 : Int} (hK : ∀ σ : vS, zfr [12] σ0 σ → ((p0 ≤ σ 12 4 ∧ (σ 12 11 = 0 ∨ σ 12 11 = 4)) ∨ (p0 + 1 ≤ σ 12 4 ∧ 1 ≤ σ 12 11 ∧ σ 12 11 ≤ 4)) → K none σ) : ∀ (m : Nat) (σ : vS), 940 - σ 12 4 < (m : Int) → zfr [12] σ0 σ → p0 ≤ σ 12 4 → zG E gjl md271 w gm_271 0 [(0, .inr (.inl 12))] σ K := by
  intro m
  induction m with
  | zero =>
    intro σ hm hf hq
    refine zbd (fun hb => ?_)
    have f : 0 ≤ σ 12 4 ∧ σ 12 4 ≤ 940 := zf B hb (t := 12) (f := 4) (by decide +kernel)
    omega
  | succ m ih =>
    intro σ hm hf hq
    have o0 := vand_255 (σ 51 (σ 12 4))
    have o1 := vand_rg (σ 51 (σ 12 4)) 255
    refine zbd (fun hb => zgo B zS_nil [] [(0, [0]), (181, [0, 2, 3]), (201, [0, 2, 3])] (fun m => Nat.beq m.2.2.2.2.2.1 0) (by decide +kernel) ?_)
    have f1 : 0 ≤ σ 12 4 ∧ σ 12 4 ≤ 940 := zf B hb (t := 12) (f := 4) (by decide +kernel)
    have f2 : 0 ≤ σ 12 3 ∧ σ 12 3 ≤ 940 := zf B hb (t := 12) (f := 3) (by decide +kernel)
    refine And.intro (fun (c3 : (σ 12 3) ≤ (σ 12 4)) => ?_) (fun (c4 : (σ 12 4) < (σ 12 3)) => ?_)
    · refine And.intro (fun (q : (-1) = 32) => absurd q (by decide)) (fun _ => ?_)
      refine And.intro (fun _ => ?_) (fun (q : (σ 12 4) < (σ 12 3)) => (by exfalso; omega))
      refine And.intro (fun _ => ?_) (fun (q : (-1) = 10) => absurd q (by decide))
      refine And.intro (show 0 ≤ (σ 12 4) ∧ (σ 12 4) ≤ 940 from by omega) ?_
      refine And.intro (show Int.negSucc 2147483647 ≤ 0 ∧ 0 ≤ 2147483647 from rgm (by omega)) ?_
      have f5 : 0 ≤ σ 12 5 ∧ σ 12 5 ≤ 940 := zf B hb (t := 12) (f := 5) (by decide +kernel)
      refine And.intro (fun (c6 : (σ 12 3) ≤ (σ 12 5)) => ?_) (fun (c7 : (σ 12 5) < (σ 12 3)) => ?_)
      · refine And.intro (fun _ => ?_) (fun (q : (σ 12 4) < (σ 12 3)) => (by exfalso; omega))
        refine And.intro (fun (q : 0 ≤ (-1)) => absurd q (by decide)) (fun _ => ?_)
        refine And.intro (show 0 ≤ 0 ∧ 0 ≤ 4 from by omega) ?_
        first
        | (exfalso; omega)
        | exact hK _ (zfr_up (zfr_up (zfr_up hf (by decide)) (by decide)) (by decide)) (show (p0 ≤ σ 12 4 ∧ (0 = 0 ∨ 0 = 4)) ∨ (p0 + 1 ≤ σ 12 4 ∧ 1 ≤ 0 ∧ 0 ≤ 4) from by omega)
      · refine And.intro (fun (c8 : (σ 12 4) < (σ 12 5)) => ?_) (fun (c9 : (σ 12 5) ≤ (σ 12 4)) => ?_)
        · refine And.intro (fun _ => ?_) (fun (q : (σ 12 4) < (σ 12 3)) => (by exfalso; omega))
          refine And.intro (fun (q : 0 ≤ (-1)) => absurd q (by decide)) (fun _ => ?_)
          refine And.intro (show 0 ≤ 0 ∧ 0 ≤ 4 from by omega) ?_
          first
          | (exfalso; omega)
          | exact hK _ (zfr_up (zfr_up (zfr_up hf (by decide)) (by decide)) (by decide)) (show (p0 ≤ σ 12 4 ∧ (0 = 0 ∨ 0 = 4)) ∨ (p0 + 1 ≤ σ 12 4 ∧ 1 ≤ 0 ∧ 0 ≤ 4) from by omega)
        · refine And.intro (show 0 ≤ (σ 12 5) ∧ (σ 12 5) ≤ 940 from by omega) ?_
          refine And.intro (show 0 ≤ 4 ∧ 4 ≤ 4 from by omega) ?_
          first
          | (exfalso; omega)
          | exact hK _ (zfr_up (zfr_up (zfr_up (zfr_up hf (by decide)) (by decide)) (by decide)) (by decide)) (show (p0 ≤ σ 12 4 ∧ (4 = 0 ∨ 4 = 4)) ∨ (p0 + 1 ≤ σ 12 4 ∧ 1 ≤ 4 ∧ 4 ≤ 4) from by omega)
    · refine And.intro (show 0 ≤ (σ 12 4) ∧ (σ 12 4) < 940 from by omega) ?_
      refine And.intro (fun (c10 : (vand (σ 51 (σ 12 4)) 255) = 32) => ?_) (fun (c11 : ¬ (vand (σ 51 (σ 12 4)) 255) = 32) => ?_)
      · refine And.intro (show -2147483648 ≤ ((σ 12 4) + 1) ∧ ((σ 12 4) + 1) ≤ 2147483647 from by omega) ?_
        refine And.intro (show 0 ≤ ((σ 12 4) + 1) ∧ ((σ 12 4) + 1) ≤ 940 from by omega) ?_
        first
        | (exfalso; omega)
        | (show zG E gjl md271 w gm_271 0 [(0, .inr (.inl 12))] (vup σ 12 4 ((σ 12 4) + 1)) K; exact ih _ (show 940 - ((σ 12 4) + 1) < (m : Int) from by omega) (zfr_up hf (by decide)) (show p0 ≤ (σ 12 4) + 1 from by omega))
      · refine And.intro (fun (q : (σ 12 3) ≤ (σ 12 4)) => (by exfalso; omega)) (fun _ => ?_)
        refine And.intro (show 0 ≤ (σ 12 4) ∧ (σ 12 4) < 940 from by omega) ?_
        refine And.intro (fun (c12 : ¬ (vand (σ 51 (σ 12 4)) 255) = 10) => ?_) (fun (c13 : (vand (σ 51 (σ 12 4)) 255) = 10) => ?_)
        · refine And.intro (show 0 ≤ (σ 12 4) ∧ (σ 12 4) ≤ 940 from by omega) ?_
          refine And.intro (show Int.negSucc 2147483647 ≤ 0 ∧ 0 ≤ 2147483647 from rgm (by omega)) ?_
          have f14 : 0 ≤ σ 12 5 ∧ σ 12 5 ≤ 940 := zf B hb (t := 12) (f := 5) (by decide +kernel)
          refine And.intro (fun (c15 : (σ 12 3) ≤ (σ 12 5)) => ?_) (fun (c16 : (σ 12 5) < (σ 12 3)) => ?_)
          · refine And.intro (fun (q : (σ 12 3) ≤ (σ 12 4)) => (by exfalso; omega)) (fun _ => ?_)
            refine And.intro (show 0 ≤ (σ 12 4) ∧ (σ 12 4) < 940 from by omega) ?_
            refine And.intro (fun (c17 : 0 ≤ (vand (σ 51 (σ 12 4)) 255)) => ?_) (fun (c18 : (vand (σ 51 (σ 12 4)) 255) < 0) => ?_)
            · refine And.intro (fun (c19 : (vand (σ 51 (σ 12 4)) 255) < 97) => ?_) (fun (c20 : 97 ≤ (vand (σ 51 (σ 12 4)) 255)) => ?_)
              · refine And.intro (show 0 ≤ 0 ∧ 0 ≤ 1 from by omega) ?_
                refine And.intro (fun (q : ¬ 0 = 0) => absurd q (by decide)) (fun _ => ?_)
                refine And.intro (fun (c21 : (vand (σ 51 (σ 12 4)) 255) < 48) => ?_) (fun (c22 : 48 ≤ (vand (σ 51 (σ 12 4)) 255)) => ?_)
                · refine And.intro (show 0 ≤ 0 ∧ 0 ≤ 1 from by omega) ?_
                  refine And.intro (fun (q : ¬ 0 = 0) => absurd q (by decide)) (fun _ => ?_)
                  refine And.intro (fun (q : (vand (σ 51 (σ 12 4)) 255) = 59) => (by exfalso; omega)) (fun _ => ?_)
                  refine And.intro (fun (c23 : (vand (σ 51 (σ 12 4)) 255) = 40) => ?_) (fun (c24 : ¬ (vand (σ 51 (σ 12 4)) 255) = 40) => ?_)
                  · refine And.intro (show 0 ≤ 3 ∧ 3 ≤ 4 from by omega) ?_
                    refine And.intro (show Int.negSucc 2147483647 ≤ (vand (σ 51 (σ 12 4)) 255) ∧ (vand (σ 51 (σ 12 4)) 255) ≤ 2147483647 from rgm (by omega)) ?_
                    refine And.intro (show -2147483648 ≤ ((σ 12 4) + 1) ∧ ((σ 12 4) + 1) ≤ 2147483647 from by omega) ?_
                    refine And.intro (show 0 ≤ ((σ 12 4) + 1) ∧ ((σ 12 4) + 1) ≤ 940 from by omega) ?_
                    first
                    | (exfalso; omega)
                    | exact hK _ (zfr_up (zfr_up (zfr_up (zfr_up (zfr_up hf (by decide)) (by decide)) (by decide)) (by decide)) (by decide)) (show (p0 ≤ (σ 12 4) + 1 ∧ (3 = 0 ∨ 3 = 4)) ∨ (p0 + 1 ≤ (σ 12 4) + 1 ∧ 1 ≤ 3 ∧ 3 ≤ 4) from by omega)
                  · refine And.intro (fun (c25 : (vand (σ 51 (σ 12 4)) 255) = 41) => ?_) (fun (c26 : ¬ (vand (σ 51 (σ 12 4)) 255) = 41) => ?_)
                    · refine And.intro (show 0 ≤ 3 ∧ 3 ≤ 4 from by omega) ?_
                      refine And.intro (show Int.negSucc 2147483647 ≤ (vand (σ 51 (σ 12 4)) 255) ∧ (vand (σ 51 (σ 12 4)) 255) ≤ 2147483647 from rgm (by omega)) ?_
                      refine And.intro (show -2147483648 ≤ ((σ 12 4) + 1) ∧ ((σ 12 4) + 1) ≤ 2147483647 from by omega) ?_
                      refine And.intro (show 0 ≤ ((σ 12 4) + 1) ∧ ((σ 12 4) + 1) ≤ 940 from by omega) ?_
                      first
                      | (exfalso; omega)
                      | exact hK _ (zfr_up (zfr_up (zfr_up (zfr_up (zfr_up hf (by decide)) (by decide)) (by decide)) (by decide)) (by decide)) (show (p0 ≤ (σ 12 4) + 1 ∧ (3 = 0 ∨ 3 = 4)) ∨ (p0 + 1 ≤ (σ 12 4) + 1 ∧ 1 ≤ 3 ∧ 3 ≤ 4) from by omega)
                    · refine And.intro (fun _ => ?_) (fun (q : 60 ≤ (vand (σ 51 (σ 12 4)) 255)) => (by exfalso; omega))
                      refine And.intro (show 0 ≤ 4 ∧ 4 ≤ 4 from by omega) ?_
                      refine And.intro (show Int.negSucc 2147483647 ≤ (vand (σ 51 (σ 12 4)) 255) ∧ (vand (σ 51 (σ 12 4)) 255) ≤ 2147483647 from rgm (by omega)) ?_
                      refine And.intro (show -2147483648 ≤ ((σ 12 4) + 1) ∧ ((σ 12 4) + 1) ≤ 2147483647 from by omega) ?_
                      refine And.intro (show 0 ≤ ((σ 12 4) + 1) ∧ ((σ 12 4) + 1) ≤ 940 from by omega) ?_
                      first
                      | (exfalso; omega)
                      | exact hK _ (zfr_up (zfr_up (zfr_up (zfr_up (zfr_up hf (by decide)) (by decide)) (by decide)) (by decide)) (by decide)) (show (p0 ≤ (σ 12 4) + 1 ∧ (4 = 0 ∨ 4 = 4)) ∨ (p0 + 1 ≤ (σ 12 4) + 1 ∧ 1 ≤ 4 ∧ 4 ≤ 4) from by omega)
                · refine And.intro (fun (c27 : 57 < (vand (σ 51 (σ 12 4)) 255)) => ?_) (fun (c28 : (vand (σ 51 (σ 12 4)) 255) ≤ 57) => ?_)
                  · refine And.intro (show 0 ≤ 0 ∧ 0 ≤ 1 from by omega) ?_
                    refine And.intro (fun (q : ¬ 0 = 0) => absurd q (by decide)) (fun _ => ?_)
                    refine And.intro (fun (c29 : (vand (σ 51 (σ 12 4)) 255) = 59) => ?_) (fun (c30 : ¬ (vand (σ 51 (σ 12 4)) 255) = 59) => ?_)
                    · refine And.intro (show 0 ≤ 3 ∧ 3 ≤ 4 from by omega) ?_
                      refine And.intro (show Int.negSucc 2147483647 ≤ (vand (σ 51 (σ 12 4)) 255) ∧ (vand (σ 51 (σ 12 4)) 255) ≤ 2147483647 from rgm (by omega)) ?_
                      refine And.intro (show -2147483648 ≤ ((σ 12 4) + 1) ∧ ((σ 12 4) + 1) ≤ 2147483647 from by omega) ?_
                      refine And.intro (show 0 ≤ ((σ 12 4) + 1) ∧ ((σ 12 4) + 1) ≤ 940 from by omega) ?_
                      first
                      | (exfalso; omega)
                      | exact hK _ (zfr_up (zfr_up (zfr_up (zfr_up (zfr_up hf (by decide)) (by decide)) (by decide)) (by decide)) (by decide)) (show (p0 ≤ (σ 12 4) + 1 ∧ (3 = 0 ∨ 3 = 4)) ∨ (p0 + 1 ≤ (σ 12 4) + 1 ∧ 1 ≤ 3 ∧ 3 ≤ 4) from by omega)
                    · refine And.intro (fun (q : (vand (σ 51 (σ 12 4)) 255) = 40) => (by exfalso; omega)) (fun _ => ?_)
                      refine And.intro (fun (q : (vand (σ 51 (σ 12 4)) 255) = 41) => (by exfalso; omega)) (fun _ => ?_)
                      refine And.intro (fun (c31 : (vand (σ 51 (σ 12 4)) 255) < 60) => ?_) (fun (c32 : 60 ≤ (vand (σ 51 (σ 12 4)) 255)) => ?_)
                      · refine And.intro (show 0 ≤ 4 ∧ 4 ≤ 4 from by omega) ?_
                        refine And.intro (show Int.negSucc 2147483647 ≤ (vand (σ 51 (σ 12 4)) 255) ∧ (vand (σ 51 (σ 12 4)) 255) ≤ 2147483647 from rgm (by omega)) ?_
                        refine And.intro (show -2147483648 ≤ ((σ 12 4) + 1) ∧ ((σ 12 4) + 1) ≤ 2147483647 from by omega) ?_
                        refine And.intro (show 0 ≤ ((σ 12 4) + 1) ∧ ((σ 12 4) + 1) ≤ 940 from by omega) ?_
                        first
                        | (exfalso; omega)
                        | exact hK _ (zfr_up (zfr_up (zfr_up (zfr_up (zfr_up hf (by decide)) (by decide)) (by decide)) (by decide)) (by decide)) (show (p0 ≤ (σ 12 4) + 1 ∧ (4 = 0 ∨ 4 = 4)) ∨ (p0 + 1 ≤ (σ 12 4) + 1 ∧ 1 ≤ 4 ∧ 4 ≤ 4) from by omega)
                      · refine And.intro (fun (c33 : 62 < (vand (σ 51 (σ 12 4)) 255)) => ?_) (fun (c34 : (vand (σ 51 (σ 12 4)) 255) ≤ 62) => ?_)
                        · refine And.intro (show 0 ≤ 4 ∧ 4 ≤ 4 from by omega) ?_
                          refine And.intro (show Int.negSucc 2147483647 ≤ (vand (σ 51 (σ 12 4)) 255) ∧ (vand (σ 51 (σ 12 4)) 255) ≤ 2147483647 from rgm (by omega)) ?_
                          refine And.intro (show -2147483648 ≤ ((σ 12 4) + 1) ∧ ((σ 12 4) + 1) ≤ 2147483647 from by omega) ?_
                          refine And.intro (show 0 ≤ ((σ 12 4) + 1) ∧ ((σ 12 4) + 1) ≤ 940 from by omega) ?_
                          first
                          | (exfalso; omega)
                          | exact hK _ (zfr_up (zfr_up (zfr_up (zfr_up (zfr_up hf (by decide)) (by decide)) (by decide)) (by decide)) (by decide)) (show (p0 ≤ (σ 12 4) + 1 ∧ (4 = 0 ∨ 4 = 4)) ∨ (p0 + 1 ≤ (σ 12 4) + 1 ∧ 1 ≤ 4 ∧ 4 ≤ 4) from by omega)
                        · refine And.intro (show 0 ≤ 3 ∧ 3 ≤ 4 from by omega) ?_
                          refine And.intro (show Int.negSucc 2147483647 ≤ (vand (σ 51 (σ 12 4)) 255) ∧ (vand (σ 51 (σ 12 4)) 255) ≤ 2147483647 from rgm (by omega)) ?_
                          refine And.intro (show -2147483648 ≤ ((σ 12 4) + 1) ∧ ((σ 12 4) + 1) ≤ 2147483647 from by omega) ?_
                          refine And.intro (show 0 ≤ ((σ 12 4) + 1) ∧ ((σ 12 4) + 1) ≤ 940 from by omega) ?_
                          first
                          | (exfalso; omega)
                          | exact hK _ (zfr_up (zfr_up (zfr_up (zfr_up (zfr_up hf (by decide)) (by decide)) (by decide)) (by decide)) (by decide)) (show (p0 ≤ (σ 12 4) + 1 ∧ (3 = 0 ∨ 3 = 4)) ∨ (p0 + 1 ≤ (σ 12 4) + 1 ∧ 1 ≤ 3 ∧ 3 ≤ 4) from by omega)
                  · refine And.intro (show 0 ≤ 1 ∧ 1 ≤ 1 from by omega) ?_
                    refine And.intro (fun _ => ?_) (fun (q : 1 = 0) => absurd q (by decide))
                    refine And.intro (fun _ => ?_) (fun (q : 97 ≤ (vand (σ 51 (σ 12 4)) 255)) => (by exfalso; omega))
                    refine And.intro (show 0 ≤ 0 ∧ 0 ≤ 1 from by omega) ?_
                    refine And.intro (show Int.negSucc 2147483647 ≤ 0 ∧ 0 ≤ 2147483647 from rgm (by omega)) ?_
                    first
                    | (exfalso; omega)
                    | (show zG E gjl md271 w gm_271 181 [(0, .inr (.inl 12)), (2, .inl 0), (3, .inl 1)] (vup (vup (vup σ 12 12 (σ 12 4)) 12 13 0) 12 14 0) K; exact z_sk2b B hK 941 _ _ (show 940 - (σ 12 4) < ((941 : Nat) : Int) from by omega) (zfr_up (zfr_up (zfr_up hf (by decide)) (by decide)) (by decide)) (Or.inr (show p0 ≤ σ 12 4 ∧ σ 12 4 < σ 12 3 ∧ ((97 ≤ vand (σ 51 (σ 12 4)) 255 ∧ vand (σ 51 (σ 12 4)) 255 ≤ 122) ∨ (48 ≤ vand (σ 51 (σ 12 4)) 255 ∧ vand (σ 51 (σ 12 4)) 255 ≤ 57)) from by omega)) (show 0 ≤ 0 ∧ 0 ≤ σ 12 4 from by omega) (show 0 = 0 → 0 = 0 from fun q => by omega) (show 0 = 1 → 0 ≤ 0 ∧ 0 ≤ 74 from fun q => by omega) (by omega) (by omega))
              · refine And.intro (fun (c35 : 122 < (vand (σ 51 (σ 12 4)) 255)) => ?_) (fun (c36 : (vand (σ 51 (σ 12 4)) 255) ≤ 122) => ?_)
                · refine And.intro (show 0 ≤ 0 ∧ 0 ≤ 1 from by omega) ?_
                  refine And.intro (fun (q : ¬ 0 = 0) => absurd q (by decide)) (fun _ => ?_)
                  refine And.intro (fun (q : (vand (σ 51 (σ 12 4)) 255) < 48) => (by exfalso; omega)) (fun _ => ?_)
                  refine And.intro (fun _ => ?_) (fun (q : (vand (σ 51 (σ 12 4)) 255) ≤ 57) => (by exfalso; omega))
                  refine And.intro (show 0 ≤ 0 ∧ 0 ≤ 1 from by omega) ?_
                  refine And.intro (fun (q : ¬ 0 = 0) => absurd q (by decide)) (fun _ => ?_)
                  refine And.intro (fun (q : (vand (σ 51 (σ 12 4)) 255) = 59) => (by exfalso; omega)) (fun _ => ?_)
                  refine And.intro (fun (q : (vand (σ 51 (σ 12 4)) 255) = 40) => (by exfalso; omega)) (fun _ => ?_)
                  refine And.intro (fun (q : (vand (σ 51 (σ 12 4)) 255) = 41) => (by exfalso; omega)) (fun _ => ?_)
                  refine And.intro (fun (q : (vand (σ 51 (σ 12 4)) 255) < 60) => (by exfalso; omega)) (fun _ => ?_)
                  refine And.intro (fun _ => ?_) (fun (q : (vand (σ 51 (σ 12 4)) 255) ≤ 62) => (by exfalso; omega))
                  refine And.intro (show 0 ≤ 4 ∧ 4 ≤ 4 from by omega) ?_
                  refine And.intro (show Int.negSucc 2147483647 ≤ (vand (σ 51 (σ 12 4)) 255) ∧ (vand (σ 51 (σ 12 4)) 255) ≤ 2147483647 from rgm (by omega)) ?_
                  refine And.intro (show -2147483648 ≤ ((σ 12 4) + 1) ∧ ((σ 12 4) + 1) ≤ 2147483647 from by omega) ?_
                  refine And.intro (show 0 ≤ ((σ 12 4) + 1) ∧ ((σ 12 4) + 1) ≤ 940 from by omega) ?_
                  first
                  | (exfalso; omega)
                  | exact hK _ (zfr_up (zfr_up (zfr_up (zfr_up (zfr_up hf (by decide)) (by decide)) (by decide)) (by decide)) (by decide)) (show (p0 ≤ (σ 12 4) + 1 ∧ (4 = 0 ∨ 4 = 4)) ∨ (p0 + 1 ≤ (σ 12 4) + 1 ∧ 1 ≤ 4 ∧ 4 ≤ 4) from by omega)
                · refine And.intro (show 0 ≤ 1 ∧ 1 ≤ 1 from by omega) ?_
                  refine And.intro (fun _ => ?_) (fun (q : 1 = 0) => absurd q (by decide))
                  refine And.intro (fun (q : (vand (σ 51 (σ 12 4)) 255) < 97) => (by exfalso; omega)) (fun _ => ?_)
                  refine And.intro (fun (q : 122 < (vand (σ 51 (σ 12 4)) 255)) => (by exfalso; omega)) (fun _ => ?_)
                  refine And.intro (show 0 ≤ 1 ∧ 1 ≤ 1 from by omega) ?_
                  refine And.intro (show Int.negSucc 2147483647 ≤ 0 ∧ 0 ≤ 2147483647 from rgm (by omega)) ?_
                  first
                  | (exfalso; omega)
                  | (show zG E gjl md271 w gm_271 181 [(0, .inr (.inl 12)), (2, .inl 1), (3, .inl 1)] (vup (vup (vup σ 12 12 (σ 12 4)) 12 13 0) 12 14 0) K; exact z_sk2b B hK 941 _ _ (show 940 - (σ 12 4) < ((941 : Nat) : Int) from by omega) (zfr_up (zfr_up (zfr_up hf (by decide)) (by decide)) (by decide)) (Or.inr (show p0 ≤ σ 12 4 ∧ σ 12 4 < σ 12 3 ∧ ((97 ≤ vand (σ 51 (σ 12 4)) 255 ∧ vand (σ 51 (σ 12 4)) 255 ≤ 122) ∨ (48 ≤ vand (σ 51 (σ 12 4)) 255 ∧ vand (σ 51 (σ 12 4)) 255 ≤ 57)) from by omega)) (show 0 ≤ 0 ∧ 0 ≤ σ 12 4 from by omega) (show 0 = 0 → 0 = 0 from fun q => by omega) (show 0 = 1 → 0 ≤ 0 ∧ 0 ≤ 74 from fun q => by omega) (by omega) (by omega))
            · refine And.intro (show 0 ≤ 0 ∧ 0 ≤ 4 from by omega) ?_
              first
              | (exfalso; omega)
              | exact hK _ (zfr_up (zfr_up (zfr_up hf (by decide)) (by decide)) (by decide)) (show (p0 ≤ σ 12 4 ∧ (0 = 0 ∨ 0 = 4)) ∨ (p0 + 1 ≤ σ 12 4 ∧ 1 ≤ 0 ∧ 0 ≤ 4) from by omega)
          · refine And.intro (fun (c37 : (σ 12 4) < (σ 12 5)) => ?_) (fun (c38 : (σ 12 5) ≤ (σ 12 4)) => ?_)
            · refine And.intro (fun (q : (σ 12 3) ≤ (σ 12 4)) => (by exfalso; omega)) (fun _ => ?_)
              refine And.intro (show 0 ≤ (σ 12 4) ∧ (σ 12 4) < 940 from by omega) ?_
              refine And.intro (fun (c39 : 0 ≤ (vand (σ 51 (σ 12 4)) 255)) => ?_) (fun (c40 : (vand (σ 51 (σ 12 4)) 255) < 0) => ?_)
              · refine And.intro (fun (c41 : (vand (σ 51 (σ 12 4)) 255) < 97) => ?_) (fun (c42 : 97 ≤ (vand (σ 51 (σ 12 4)) 255)) => ?_)
                · refine And.intro (show 0 ≤ 0 ∧ 0 ≤ 1 from by omega) ?_
                  refine And.intro (fun (q : ¬ 0 = 0) => absurd q (by decide)) (fun _ => ?_)
                  refine And.intro (fun (c43 : (vand (σ 51 (σ 12 4)) 255) < 48) => ?_) (fun (c44 : 48 ≤ (vand (σ 51 (σ 12 4)) 255)) => ?_)
                  · refine And.intro (show 0 ≤ 0 ∧ 0 ≤ 1 from by omega) ?_
                    refine And.intro (fun (q : ¬ 0 = 0) => absurd q (by decide)) (fun _ => ?_)
                    refine And.intro (fun (q : (vand (σ 51 (σ 12 4)) 255) = 59) => (by exfalso; omega)) (fun _ => ?_)
                    refine And.intro (fun (c45 : (vand (σ 51 (σ 12 4)) 255) = 40) => ?_) (fun (c46 : ¬ (vand (σ 51 (σ 12 4)) 255) = 40) => ?_)
                    · refine And.intro (show 0 ≤ 3 ∧ 3 ≤ 4 from by omega) ?_
                      refine And.intro (show Int.negSucc 2147483647 ≤ (vand (σ 51 (σ 12 4)) 255) ∧ (vand (σ 51 (σ 12 4)) 255) ≤ 2147483647 from rgm (by omega)) ?_
                      refine And.intro (show -2147483648 ≤ ((σ 12 4) + 1) ∧ ((σ 12 4) + 1) ≤ 2147483647 from by omega) ?_
                      refine And.intro (show 0 ≤ ((σ 12 4) + 1) ∧ ((σ 12 4) + 1) ≤ 940 from by omega) ?_
                      first
                      | (exfalso; omega)
                      | exact hK _ (zfr_up (zfr_up (zfr_up (zfr_up (zfr_up hf (by decide)) (by decide)) (by decide)) (by decide)) (by decide)) (show (p0 ≤ (σ 12 4) + 1 ∧ (3 = 0 ∨ 3 = 4)) ∨ (p0 + 1 ≤ (σ 12 4) + 1 ∧ 1 ≤ 3 ∧ 3 ≤ 4) from by omega)
                    · refine And.intro (fun (c47 : (vand (σ 51 (σ 12 4)) 255) = 41) => ?_) (fun (c48 : ¬ (vand (σ 51 (σ 12 4)) 255) = 41) => ?_)
                      · refine And.intro (show 0 ≤ 3 ∧ 3 ≤ 4 from by omega) ?_
                        refine And.intro (show Int.negSucc 2147483647 ≤ (vand (σ 51 (σ 12 4)) 255) ∧ (vand (σ 51 (σ 12 4)) 255) ≤ 2147483647 from rgm (by omega)) ?_
                        refine And.intro (show -2147483648 ≤ ((σ 12 4) + 1) ∧ ((σ 12 4) + 1) ≤ 2147483647 from by omega) ?_
                        refine And.intro (show 0 ≤ ((σ 12 4) + 1) ∧ ((σ 12 4) + 1) ≤ 940 from by omega) ?_
                        first
                        | (exfalso; omega)
                        | exact hK _ (zfr_up (zfr_up (zfr_up (zfr_up (zfr_up hf (by decide)) (by decide)) (by decide)) (by decide)) (by decide)) (show (p0 ≤ (σ 12 4) + 1 ∧ (3 = 0 ∨ 3 = 4)) ∨ (p0 + 1 ≤ (σ 12 4) + 1 ∧ 1 ≤ 3 ∧ 3 ≤ 4) from by omega)
                      · refine And.intro (fun _ => ?_) (fun (q : 60 ≤ (vand (σ 51 (σ 12 4)) 255)) => (by exfalso; omega))
                        refine And.intro (show 0 ≤ 4 ∧ 4 ≤ 4 from by omega) ?_
                        refine And.intro (show Int.negSucc 2147483647 ≤ (vand (σ 51 (σ 12 4)) 255) ∧ (vand (σ 51 (σ 12 4)) 255) ≤ 2147483647 from rgm (by omega)) ?_
                        refine And.intro (show -2147483648 ≤ ((σ 12 4) + 1) ∧ ((σ 12 4) + 1) ≤ 2147483647 from by omega) ?_
                        refine And.intro (show 0 ≤ ((σ 12 4) + 1) ∧ ((σ 12 4) + 1) ≤ 940 from by omega) ?_
                        first
                        | (exfalso; omega)
                        | exact hK _ (zfr_up (zfr_up (zfr_up (zfr_up (zfr_up hf (by decide)) (by decide)) (by decide)) (by decide)) (by decide)) (show (p0 ≤ (σ 12 4) + 1 ∧ (4 = 0 ∨ 4 = 4)) ∨ (p0 + 1 ≤ (σ 12 4) + 1 ∧ 1 ≤ 4 ∧ 4 ≤ 4) from by omega)
                  · refine And.intro (fun (c49 : 57 < (vand (σ 51 (σ 12 4)) 255)) => ?_) (fun (c50 : (vand (σ 51 (σ 12 4)) 255) ≤ 57) => ?_)
                    · refine And.intro (show 0 ≤ 0 ∧ 0 ≤ 1 from by omega) ?_
                      refine And.intro (fun (q : ¬ 0 = 0) => absurd q (by decide)) (fun _ => ?_)
                      refine And.intro (fun (c51 : (vand (σ 51 (σ 12 4)) 255) = 59) => ?_) (fun (c52 : ¬ (vand (σ 51 (σ 12 4)) 255) = 59) => ?_)
                      · refine And.intro (show 0 ≤ 3 ∧ 3 ≤ 4 from by omega) ?_
                        refine And.intro (show Int.negSucc 2147483647 ≤ (vand (σ 51 (σ 12 4)) 255) ∧ (vand (σ 51 (σ 12 4)) 255) ≤ 2147483647 from rgm (by omega)) ?_
                        refine And.intro (show -2147483648 ≤ ((σ 12 4) + 1) ∧ ((σ 12 4) + 1) ≤ 2147483647 from by omega) ?_
                        refine And.intro (show 0 ≤ ((σ 12 4) + 1) ∧ ((σ 12 4) + 1) ≤ 940 from by omega) ?_
                        first
                        | (exfalso; omega)
                        | exact hK _ (zfr_up (zfr_up (zfr_up (zfr_up (zfr_up hf (by decide)) (by decide)) (by decide)) (by decide)) (by decide)) (show (p0 ≤ (σ 12 4) + 1 ∧ (3 = 0 ∨ 3 = 4)) ∨ (p0 + 1 ≤ (σ 12 4) + 1 ∧ 1 ≤ 3 ∧ 3 ≤ 4) from by omega)
                      · refine And.intro (fun (q : (vand (σ 51 (σ 12 4)) 255) = 40) => (by exfalso; omega)) (fun _ => ?_)
                        refine And.intro (fun (q : (vand (σ 51 (σ 12 4)) 255) = 41) => (by exfalso; omega)) (fun _ => ?_)
                        refine And.intro (fun (c53 : (vand (σ 51 (σ 12 4)) 255) < 60) => ?_) (fun (c54 : 60 ≤ (vand (σ 51 (σ 12 4)) 255)) => ?_)
                        · refine And.intro (show 0 ≤ 4 ∧ 4 ≤ 4 from by omega) ?_
                          refine And.intro (show Int.negSucc 2147483647 ≤ (vand (σ 51 (σ 12 4)) 255) ∧ (vand (σ 51 (σ 12 4)) 255) ≤ 2147483647 from rgm (by omega)) ?_
                          refine And.intro (show -2147483648 ≤ ((σ 12 4) + 1) ∧ ((σ 12 4) + 1) ≤ 2147483647 from by omega) ?_
                          refine And.intro (show 0 ≤ ((σ 12 4) + 1) ∧ ((σ 12 4) + 1) ≤ 940 from by omega) ?_
                          first
                          | (exfalso; omega)
                          | exact hK _ (zfr_up (zfr_up (zfr_up (zfr_up (zfr_up hf (by decide)) (by decide)) (by decide)) (by decide)) (by decide)) (show (p0 ≤ (σ 12 4) + 1 ∧ (4 = 0 ∨ 4 = 4)) ∨ (p0 + 1 ≤ (σ 12 4) + 1 ∧ 1 ≤ 4 ∧ 4 ≤ 4) from by omega)
                        · refine And.intro (fun (c55 : 62 < (vand (σ 51 (σ 12 4)) 255)) => ?_) (fun (c56 : (vand (σ 51 (σ 12 4)) 255) ≤ 62) => ?_)
                          · refine And.intro (show 0 ≤ 4 ∧ 4 ≤ 4 from by omega) ?_
                            refine And.intro (show Int.negSucc 2147483647 ≤ (vand (σ 51 (σ 12 4)) 255) ∧ (vand (σ 51 (σ 12 4)) 255) ≤ 2147483647 from rgm (by omega)) ?_
                            refine And.intro (show -2147483648 ≤ ((σ 12 4) + 1) ∧ ((σ 12 4) + 1) ≤ 2147483647 from by omega) ?_
                            refine And.intro (show 0 ≤ ((σ 12 4) + 1) ∧ ((σ 12 4) + 1) ≤ 940 from by omega) ?_
                            first
                            | (exfalso; omega)
                            | exact hK _ (zfr_up (zfr_up (zfr_up (zfr_up (zfr_up hf (by decide)) (by decide)) (by decide)) (by decide)) (by decide)) (show (p0 ≤ (σ 12 4) + 1 ∧ (4 = 0 ∨ 4 = 4)) ∨ (p0 + 1 ≤ (σ 12 4) + 1 ∧ 1 ≤ 4 ∧ 4 ≤ 4) from by omega)
                          · refine And.intro (show 0 ≤ 3 ∧ 3 ≤ 4 from by omega) ?_
                            refine And.intro (show Int.negSucc 2147483647 ≤ (vand (σ 51 (σ 12 4)) 255) ∧ (vand (σ 51 (σ 12 4)) 255) ≤ 2147483647 from rgm (by omega)) ?_
                            refine And.intro (show -2147483648 ≤ ((σ 12 4) + 1) ∧ ((σ 12 4) + 1) ≤ 2147483647 from by omega) ?_
                            refine And.intro (show 0 ≤ ((σ 12 4) + 1) ∧ ((σ 12 4) + 1) ≤ 940 from by omega) ?_
                            first
                            | (exfalso; omega)
                            | exact hK _ (zfr_up (zfr_up (zfr_up (zfr_up (zfr_up hf (by decide)) (by decide)) (by decide)) (by decide)) (by decide)) (show (p0 ≤ (σ 12 4) + 1 ∧ (3 = 0 ∨ 3 = 4)) ∨ (p0 + 1 ≤ (σ 12 4) + 1 ∧ 1 ≤ 3 ∧ 3 ≤ 4) from by omega)
                    · refine And.intro (show 0 ≤ 1 ∧ 1 ≤ 1 from by omega) ?_
                      refine And.intro (fun _ => ?_) (fun (q : 1 = 0) => absurd q (by decide))
                      refine And.intro (fun _ => ?_) (fun (q : 97 ≤ (vand (σ 51 (σ 12 4)) 255)) => (by exfalso; omega))
                      refine And.intro (show 0 ≤ 0 ∧ 0 ≤ 1 from by omega) ?_
                      refine And.intro (show Int.negSucc 2147483647 ≤ 0 ∧ 0 ≤ 2147483647 from rgm (by omega)) ?_
                      first
                      | (exfalso; omega)
                      | (show zG E gjl md271 w gm_271 181 [(0, .inr (.inl 12)), (2, .inl 0), (3, .inl 1)] (vup (vup (vup σ 12 12 (σ 12 4)) 12 13 0) 12 14 0) K; exact z_sk2b B hK 941 _ _ (show 940 - (σ 12 4) < ((941 : Nat) : Int) from by omega) (zfr_up (zfr_up (zfr_up hf (by decide)) (by decide)) (by decide)) (Or.inr (show p0 ≤ σ 12 4 ∧ σ 12 4 < σ 12 3 ∧ ((97 ≤ vand (σ 51 (σ 12 4)) 255 ∧ vand (σ 51 (σ 12 4)) 255 ≤ 122) ∨ (48 ≤ vand (σ 51 (σ 12 4)) 255 ∧ vand (σ 51 (σ 12 4)) 255 ≤ 57)) from by omega)) (show 0 ≤ 0 ∧ 0 ≤ σ 12 4 from by omega) (show 0 = 0 → 0 = 0 from fun q => by omega) (show 0 = 1 → 0 ≤ 0 ∧ 0 ≤ 74 from fun q => by omega) (by omega) (by omega))
                · refine And.intro (fun (c57 : 122 < (vand (σ 51 (σ 12 4)) 255)) => ?_) (fun (c58 : (vand (σ 51 (σ 12 4)) 255) ≤ 122) => ?_)
                  · refine And.intro (show 0 ≤ 0 ∧ 0 ≤ 1 from by omega) ?_
                    refine And.intro (fun (q : ¬ 0 = 0) => absurd q (by decide)) (fun _ => ?_)
                    refine And.intro (fun (q : (vand (σ 51 (σ 12 4)) 255) < 48) => (by exfalso; omega)) (fun _ => ?_)
                    refine And.intro (fun _ => ?_) (fun (q : (vand (σ 51 (σ 12 4)) 255) ≤ 57) => (by exfalso; omega))
                    refine And.intro (show 0 ≤ 0 ∧ 0 ≤ 1 from by omega) ?_
                    refine And.intro (fun (q : ¬ 0 = 0) => absurd q (by decide)) (fun _ => ?_)
                    refine And.intro (fun (q : (vand (σ 51 (σ 12 4)) 255) = 59) => (by exfalso; omega)) (fun _ => ?_)
                    refine And.intro (fun (q : (vand (σ 51 (σ 12 4)) 255) = 40) => (by exfalso; omega)) (fun _ => ?_)
                    refine And.intro (fun (q : (vand (σ 51 (σ 12 4)) 255) = 41) => (by exfalso; omega)) (fun _ => ?_)
                    refine And.intro (fun (q : (vand (σ 51 (σ 12 4)) 255) < 60) => (by exfalso; omega)) (fun _ => ?_)
                    refine And.intro (fun _ => ?_) (fun (q : (vand (σ 51 (σ 12 4)) 255) ≤ 62) => (by exfalso; omega))
                    refine And.intro (show 0 ≤ 4 ∧ 4 ≤ 4 from by omega) ?_
                    refine And.intro (show Int.negSucc 2147483647 ≤ (vand (σ 51 (σ 12 4)) 255) ∧ (vand (σ 51 (σ 12 4)) 255) ≤ 2147483647 from rgm (by omega)) ?_
                    refine And.intro (show -2147483648 ≤ ((σ 12 4) + 1) ∧ ((σ 12 4) + 1) ≤ 2147483647 from by omega) ?_
                    refine And.intro (show 0 ≤ ((σ 12 4) + 1) ∧ ((σ 12 4) + 1) ≤ 940 from by omega) ?_
                    first
                    | (exfalso; omega)
                    | exact hK _ (zfr_up (zfr_up (zfr_up (zfr_up (zfr_up hf (by decide)) (by decide)) (by decide)) (by decide)) (by decide)) (show (p0 ≤ (σ 12 4) + 1 ∧ (4 = 0 ∨ 4 = 4)) ∨ (p0 + 1 ≤ (σ 12 4) + 1 ∧ 1 ≤ 4 ∧ 4 ≤ 4) from by omega)
                  · refine And.intro (show 0 ≤ 1 ∧ 1 ≤ 1 from by omega) ?_
                    refine And.intro (fun _ => ?_) (fun (q : 1 = 0) => absurd q (by decide))
                    refine And.intro (fun (q : (vand (σ 51 (σ 12 4)) 255) < 97) => (by exfalso; omega)) (fun _ => ?_)
                    refine And.intro (fun (q : 122 < (vand (σ 51 (σ 12 4)) 255)) => (by exfalso; omega)) (fun _ => ?_)
                    refine And.intro (show 0 ≤ 1 ∧ 1 ≤ 1 from by omega) ?_
                    refine And.intro (show Int.negSucc 2147483647 ≤ 0 ∧ 0 ≤ 2147483647 from rgm (by omega)) ?_
                    first
                    | (exfalso; omega)
                    | (show zG E gjl md271 w gm_271 181 [(0, .inr (.inl 12)), (2, .inl 1), (3, .inl 1)] (vup (vup (vup σ 12 12 (σ 12 4)) 12 13 0) 12 14 0) K; exact z_sk2b B hK 941 _ _ (show 940 - (σ 12 4) < ((941 : Nat) : Int) from by omega) (zfr_up (zfr_up (zfr_up hf (by decide)) (by decide)) (by decide)) (Or.inr (show p0 ≤ σ 12 4 ∧ σ 12 4 < σ 12 3 ∧ ((97 ≤ vand (σ 51 (σ 12 4)) 255 ∧ vand (σ 51 (σ 12 4)) 255 ≤ 122) ∨ (48 ≤ vand (σ 51 (σ 12 4)) 255 ∧ vand (σ 51 (σ 12 4)) 255 ≤ 57)) from by omega)) (show 0 ≤ 0 ∧ 0 ≤ σ 12 4 from by omega) (show 0 = 0 → 0 = 0 from fun q => by omega) (show 0 = 1 → 0 ≤ 0 ∧ 0 ≤ 74 from fun q => by omega) (by omega) (by omega))
              · refine And.intro (show 0 ≤ 0 ∧ 0 ≤ 4 from by omega) ?_
                first
                | (exfalso; omega)
                | exact hK _ (zfr_up (zfr_up (zfr_up hf (by decide)) (by decide)) (by decide)) (show (p0 ≤ σ 12 4 ∧ (0 = 0 ∨ 0 = 4)) ∨ (p0 + 1 ≤ σ 12 4 ∧ 1 ≤ 0 ∧ 0 ≤ 4) from by omega)
            · refine And.intro (show 0 ≤ (σ 12 5) ∧ (σ 12 5) ≤ 940 from by omega) ?_
              refine And.intro (show 0 ≤ 4 ∧ 4 ≤ 4 from by omega) ?_
              first
              | (exfalso; omega)
              | exact hK _ (zfr_up (zfr_up (zfr_up (zfr_up hf (by decide)) (by decide)) (by decide)) (by decide)) (show (p0 ≤ σ 12 4 ∧ (4 = 0 ∨ 4 = 4)) ∨ (p0 + 1 ≤ σ 12 4 ∧ 1 ≤ 4 ∧ 4 ≤ 4) from by omega)
        · refine And.intro (show -2147483648 ≤ ((σ 12 4) + 1) ∧ ((σ 12 4) + 1) ≤ 2147483647 from by omega) ?_
          refine And.intro (show 0 ≤ ((σ 12 4) + 1) ∧ ((σ 12 4) + 1) ≤ 940 from by omega) ?_
          first
          | (exfalso; omega)
          | (show zG E gjl md271 w gm_271 0 [(0, .inr (.inl 12))] (vup σ 12 4 ((σ 12 4) + 1)) K; exact ih _ (show 940 - ((σ 12 4) + 1) < (m : Int) from by omega) (zfr_up hf (by decide)) (show p0 ≤ (σ 12 4) + 1 from by omega))
theorem zc_271b (B : zB E) (I : zin E) : zH E gjl (gm_271, 4) gc_271_0 := by
  refine z_holds2 B I ?_ (fun w vs σ hv hX hb => ?_)
  · intro al hal f hf af haf vs hv t ht
    have hv : vFits [.inr (.inl 12)] vs := hv
    rw [fits1 hv] at ht
    have h1 : af ∈ [(0, 11), (0, 4)] := List.mem_of_getElem? haf
    rcases List.mem_cons.mp h1 with rfl | h1
    · have ht : some (Sum.inr (Sum.inl 12) : vV) = some (.inr (.inl t)) := ht
      cases ht
      exact ⟨rfl, _, _, rfl, rfl⟩
    · have e := List.mem_singleton.mp h1
      subst e
      have ht : some (Sum.inr (Sum.inl 12) : vV) = some (.inr (.inl t)) := ht
      cases ht
      exact ⟨rfl, _, _, rfl, rfl⟩
  · have hv : vFits [.inr (.inl 12)] vs := hv
    rw [fits1 hv]
    have fp : 0 ≤ σ 12 4 ∧ σ 12 4 ≤ 940 := zf B hb (t := 12) (f := 4) (by decide +kernel)
    refine zmono (K := fun ret σ2 => ret = none ∧ zfr [12] σ σ2 ∧ ((σ 12 4 ≤ σ2 12 4 ∧ (σ2 12 11 = 0 ∨ σ2 12 11 = 4)) ∨ (σ 12 4 + 1 ≤ σ2 12 4 ∧ 1 ≤ σ2 12 11 ∧ σ2 12 11 ≤ 4))) (fun ret σ2 hb2 hk => ?_) (z_sk1b B (σ0 := σ) (p0 := σ 12 4) (fun σ2 hf hq => ⟨rfl, hf, hq⟩) 941 σ (by omega) zfr_refl (Int.le_refl _))
    obtain ⟨rfl, hf, hq⟩ := hk
    have g1 : 0 ≤ σ2 12 4 ∧ σ2 12 4 ≤ 940 := zf B hb2 (t := 12) (f := 4) (by decide +kernel)
    refine ⟨vX_fr hX (hf 52 (by decide)) (hf 74 (by decide)), ?_⟩
    rcases hq with ⟨q1, q2 | q2⟩ | ⟨q1, q2, q3⟩
    · exact ⟨_, List.mem_cons_self, trivial, sk_fc g1 (show σ 12 4 + 0 ≤ σ2 12 4 from by omega) (show 0 ≤ σ2 12 11 ∧ σ2 12 11 ≤ 0 from by omega)⟩
    · exact ⟨_, List.mem_cons_of_mem _ List.mem_cons_self, trivial, sk_fc g1 (show σ 12 4 + 0 ≤ σ2 12 4 from by omega) (show 4 ≤ σ2 12 11 ∧ σ2 12 11 ≤ 4 from by omega)⟩
    · exact ⟨_, List.mem_cons_of_mem _ (List.mem_cons_of_mem _ List.mem_cons_self), trivial, sk_fc g1 q1 ⟨q2, q3⟩⟩
end Z8
