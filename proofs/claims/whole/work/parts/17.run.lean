/-! 17: run -/
section
variable {M N : Nat} {lc pc de tp hg : Int32} {aw ch dg dp ek es ew ex ey ez fd hS hid la lab oS od pa px py pz rdo rl sec sh sk so st sw sx sy sz vs wk wld : sk_F}
theorem sk_yst0 {post : SY → Prop} {s : Nat} (H : post (nI M, nI N, 0, 0, de, tp, nI 1, ek, ex, ey, ez, ew, hid, wld, sk, sx, sy, sz, sw, dp, oS, hS, lab, vs, es, la, pa, wk, aw, fd, upd dg 0 (nI s), upd st 0 0, upd rl 0 (sk_bI true), ch)) : wpY_start post (nI M, nI N, 0, 0, de, tp, 0, ek, ex, ey, ez, ew, hid, wld, sk, sx, sy, sz, sw, dp, oS, hS, lab, vs, es, la, pa, wk, aw, fd, dg, st, rl, ch) (nI s) 1 := by
  have i : vp_in (0 : Int32) 32 := vp_in_nI (n := 0) (by omega) (by omega)
  exact ⟨i, nm_e ⟨i, nm_e ⟨i, nm_e (nm_r (e' := nI 1) rfl H)⟩⟩⟩
theorem sk_ysafe {post : Int32 → SY → Prop} {s : Nat} (I : sk_Inv M N lab ek ex ey ez ew px py pz od sec rdo sk sx sy sz sw dp so sh) (hs : s < N)
    (H : ∀ hid' wld' oS' hS' : sk_F, (∀ j, j < M → (hid' j = 0 ↔ sec j = 0)) → (so s = 0 → post 0 (nI M, nI N, lc, pc, de, tp, hg, ek, ex, ey, ez, ew, hid', wld', sk, sx, sy, sz, sw, dp, oS', hS', lab, vs, es, la, pa, wk, aw, fd, dg, st, rl, ch)) ∧ (¬ so s = 0 → post 1 (nI M, nI N, lc, pc, de, tp, hg, ek, ex, ey, ez, ew, hid', wld', sk, sx, sy, sz, sw, dp, oS', hS', lab, vs, es, la, pa, wk, aw, fd, dg, st, rl, ch))) : wpY_safe post (nI M, nI N, lc, pc, de, tp, hg, ek, ex, ey, ez, ew, hid, wld, sk, sx, sy, sz, sw, dp, oS, hS, lab, vs, es, la, pa, wk, aw, fd, dg, st, rl, ch) (nI s) := by
  obtain ⟨hM, hN, HE, HQ, HS, HF⟩ := I
  have c := nI_clamp (show s < 2 ^ 31 by omega)
  have i : vp_in (nI s) 40 := vp_in_nI (by omega) (by omega)
  unfold wpY_safe
  refine sk_yfa hM hN HE HQ HS HF (fun hid' wld' oS' hS' h h2 => sk_yit hN (fun _ => br_f (by decide) ⟨i, ?_⟩) (fun w => absurd ⟨s, hs, rfl⟩ w))
  have K := H hid' wld' oS' hS' h
  rw [c]
  exact br_c (fun w => K.1 ((h2 s hs).mp w)) (fun w => K.2 (fun z => w ((h2 s hs).mpr z)))
end
theorem i_vc_run {k : Nat} {u : SX} {v : SY} (I : i_Rel k u v) (hk : k + 5 ≤ 2560) (v1 : Int32) : wpX_run (fun r u' => wpY_run (fun r' v' => r' = r ∧ i_Rel (k + 5) u' v') v v1) u v1 := by
  obtain ⟨M, N, lc, pc, pl, de, tp, hg, vs, es, lab, ek, ex, px, py, pz, ew, od, sec, rdo, sk, sx, sy, sz, sw, dp, so, sh, la, pa, vl, ps, pt, pr, ey, ez, hid, wld, oS, hS, wk, aw, fd, dg, st, rl, ch, rfl, rfl, I⟩ := I
  obtain ⟨hM, hN, HE, HQ, HS, HF⟩ := I
  have I : sk_Inv M N lab ek ex ey ez ew px py pz od sec rdo sk sx sy sz sw dp so sh := ⟨hM, hN, HE, HQ, HS, HF⟩
  unfold wpX_run wpY_run
  refine sk_xit hN (fun a => br_f (by decide) ?_) (fun a => br_t rfl (sk_yit hN (fun w => absurd w a) (fun _ => br_t rfl ⟨rfl, sk_rel I⟩)))
  obtain ⟨s, hs, rfl⟩ := a
  have c := nI_clamp (show s < 2 ^ 31 by omega)
  have i : vp_in (nI s) 40 := vp_in_nI (by omega) (by omega)
  rw [c]
  refine ⟨i, br_c (fun z => ?_) (fun z => ?_)⟩
  · exact sk_yit hN (fun _ => br_f (by decide) (sk_ysafe I hs (fun hid' wld' oS' hS' _ => ⟨fun _ => br_t rfl ⟨rfl, sk_rel I⟩, fun w => absurd z w⟩))) (fun w => absurd ⟨s, hs, rfl⟩ w)
  · obtain ⟨⟨_, _, w1, w30, d3⟩, _⟩ := HS s hs
    have hB := sk_Kb d3 w30
    obtain ⟨vs1, es1, lc1, la1, pc1, pa1, cx, cy, i1, i2, i3, i4, XS, YS⟩ := sk_R hN hM HE HS HF s hs true vs es 0 la 0 pa (Or.inl ⟨rfl, z⟩) (by omega) (by omega)
    refine sk_xplan (b := 0) (lc := 0) (pc := 0) rfl (by omega) (by omega) rfl (sk_nb true) ⟨1 + cx, ?_⟩
    refine XS _ (sk_tx hN hM HE) 1 0 0 (upd ps 0 (nI s)) (upd pt 0 0) (upd pr 0 (sk_bI true)) (by omega) (by omega) ⟨pk_us, pk_us, pk_us⟩ ?_ vl
    intro ps' pt' pr' _ vl'
    refine br_f (nI_ge (b := 1000000) (by omega) (by decide)) (br_t (by decide) ?_)
    refine sk_yit hN (fun _ => br_f (by decide) (sk_ysafe I hs (fun hid' wld' oS' hS' hsc => ⟨fun w => absurd w z, fun _ => br_f (by decide) (sk_yst0 ⟨1 + cy, ?_⟩)⟩))) (fun w => absurd ⟨s, hs, rfl⟩ w)
    refine YS _ (sk_ty hN hM HE hsc) 1 0 0 (upd dg 0 (nI s)) (upd st 0 0) (upd rl 0 (sk_bI true)) ch (by omega) (by omega) ⟨pk_us, pk_us, pk_us⟩ ?_ de tp wk aw fd
    intro dg' st' rl' ch' _ de' tq' wk' aw' fd'
    exact br_f (nI_ge (b := 60000) (by omega) (by decide)) (br_t (by decide) ⟨rfl, sk_rel I⟩)
