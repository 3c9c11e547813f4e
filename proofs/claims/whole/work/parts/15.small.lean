/-! 15: the methods, one by one -/
theorem i_vc_leaks {k : Nat} {u : SX} {v : SY} (I : i_Rel k u v) (hk : k + 5 ≤ 2560) : wpX_leaks (fun r => wpY_leaks (fun r' => r' = r ∧ i_Rel (k + 5) u v) v) u := by
  obtain ⟨M, N, lc, pc, pl, de, tp, hg, vs, es, lab, ek, ex, px, py, pz, ew, od, sec, rdo, sk, sx, sy, sz, sw, dp, so, sh, la, pa, vl, ps, pt, pr, ey, ez, hid, wld, oS, hS, wk, aw, fd, dg, st, rl, ch, rfl, rfl, I⟩ := I
  exact ⟨rfl, sk_rel I⟩
theorem i_vc_printed {k : Nat} {u : SX} {v : SY} (I : i_Rel k u v) (hk : k + 5 ≤ 2560) : wpX_printed (fun r => wpY_printed (fun r' => r' = r ∧ i_Rel (k + 5) u v) v) u := by
  obtain ⟨M, N, lc, pc, pl, de, tp, hg, vs, es, lab, ek, ex, px, py, pz, ew, od, sec, rdo, sk, sx, sy, sz, sw, dp, so, sh, la, pa, vl, ps, pt, pr, ey, ez, hid, wld, oS, hS, wk, aw, fd, dg, st, rl, ch, rfl, rfl, I⟩ := I
  exact ⟨rfl, sk_rel I⟩
theorem i_vc_leak {k : Nat} {u : SX} {v : SY} (I : i_Rel k u v) (hk : k + 5 ≤ 2560) (v1 : Int32) : wpX_leak (fun r => wpY_leak (fun r' => r' = r ∧ i_Rel (k + 5) u v) v v1) u v1 := by
  obtain ⟨M, N, lc, pc, pl, de, tp, hg, vs, es, lab, ek, ex, px, py, pz, ew, od, sec, rdo, sk, sx, sy, sz, sw, dp, so, sh, la, pa, vl, ps, pt, pr, ey, ez, hid, wld, oS, hS, wk, aw, fd, dg, st, rl, ch, rfl, rfl, I⟩ := I
  by_cases h0 : v1 < 0
  · exact br_t h0 (br_t h0 ⟨rfl, sk_rel I⟩)
  · by_cases h1 : lc ≤ v1
    · exact br_f h0 (br_t h1 (br_f h0 (br_t h1 ⟨rfl, sk_rel I⟩)))
    · obtain ⟨j, hj, rfl⟩ := nI_of h0
      by_cases h2 : 200 ≤ j
      · exact br_f h0 (br_f h1 (br_t (nI_le (a := 200) h2 hj) (br_f h0 (br_f h1 (br_t (nI_lt (a := 199) (by omega) hj) ⟨rfl, sk_rel I⟩)))))
      · exact br_f h0 (br_f h1 (br_f (nI_ge (b := 200) (by omega) (by decide)) ⟨vp_in_nI (by omega) (by omega), br_f h0 (br_f h1 (br_f (nI_nlt (a := 199) (by omega) (by decide)) ⟨vp_in_nI (by omega) (by omega), rfl, sk_rel I⟩))⟩))
theorem i_vc_output {k : Nat} {u : SX} {v : SY} (I : i_Rel k u v) (hk : k + 5 ≤ 2560) (v1 : Int32) : wpX_output (fun r => wpY_output (fun r' => r' = r ∧ i_Rel (k + 5) u v) v v1) u v1 := by
  obtain ⟨M, N, lc, pc, pl, de, tp, hg, vs, es, lab, ek, ex, px, py, pz, ew, od, sec, rdo, sk, sx, sy, sz, sw, dp, so, sh, la, pa, vl, ps, pt, pr, ey, ez, hid, wld, oS, hS, wk, aw, fd, dg, st, rl, ch, rfl, rfl, I⟩ := I
  by_cases h0 : v1 < 0
  · exact br_t h0 (br_t h0 ⟨rfl, sk_rel I⟩)
  · by_cases h1 : pc ≤ v1
    · exact br_f h0 (br_t h1 (br_f h0 (br_t h1 ⟨rfl, sk_rel I⟩)))
    · obtain ⟨j, hj, rfl⟩ := nI_of h0
      by_cases h2 : 20 ≤ j
      · exact br_f h0 (br_f h1 (br_t (nI_le (a := 20) h2 hj) (br_f h0 (br_f h1 (br_t (nI_lt (a := 19) (by omega) hj) ⟨rfl, sk_rel I⟩)))))
      · exact br_f h0 (br_f h1 (br_f (nI_ge (b := 20) (by omega) (by decide)) ⟨vp_in_nI (by omega) (by omega), br_f h0 (br_f h1 (br_f (nI_nlt (a := 19) (by omega) (by decide)) ⟨vp_in_nI (by omega) (by omega), rfl, sk_rel I⟩))⟩))
theorem i_vc_variable {k : Nat} {u : SX} {v : SY} (I : i_Rel k u v) (hk : k + 5 ≤ 2560) (v1 : Int32) : wpX_variable (fun r => wpY_variable (fun r' => r' = r ∧ i_Rel (k + 5) u v) v v1) u v1 := by
  obtain ⟨M, N, lc, pc, pl, de, tp, hg, vs, es, lab, ek, ex, px, py, pz, ew, od, sec, rdo, sk, sx, sy, sz, sw, dp, so, sh, la, pa, vl, ps, pt, pr, ey, ez, hid, wld, oS, hS, wk, aw, fd, dg, st, rl, ch, rfl, rfl, I⟩ := I
  unfold wpX_variable wpY_variable
  refine sk_xiv (fun a => br_f (by decide) ?_) (fun a => br_t rfl (sk_yin (n := 7) (by omega) rfl (fun b => absurd b a) (fun b => br_t rfl ⟨rfl, sk_rel I⟩)))
  obtain ⟨j, hj, rfl⟩ := a
  exact ⟨vp_in_nI hj (by omega), sk_yin (n := 7) (by omega) rfl (fun b => br_f (by decide) ⟨vp_in_nI hj (by omega), rfl, sk_rel I⟩) (fun b => absurd ⟨j, hj, rfl⟩ b)⟩
theorem i_vc_setVariable {k : Nat} {u : SX} {v : SY} (I : i_Rel k u v) (hk : k + 5 ≤ 2560) (v1 : Int32) (v2 : Int32) : wpX_setVariable (fun r u' => wpY_setVariable (fun r' v' => r' = r ∧ i_Rel (k + 5) u' v') v v1 v2) u v1 v2 := by
  obtain ⟨M, N, lc, pc, pl, de, tp, hg, vs, es, lab, ek, ex, px, py, pz, ew, od, sec, rdo, sk, sx, sy, sz, sw, dp, so, sh, la, pa, vl, ps, pt, pr, ey, ez, hid, wld, oS, hS, wk, aw, fd, dg, st, rl, ch, rfl, rfl, I⟩ := I
  unfold wpX_setVariable wpY_setVariable
  refine sk_xiv (fun a => br_f (by decide) ?_) (fun a => br_t rfl (sk_yin (n := 7) (by omega) rfl (fun b => absurd b a) (fun b => br_t rfl ⟨rfl, sk_rel I⟩)))
  obtain ⟨j, hj, rfl⟩ := a
  exact ⟨vp_in_nI hj (by omega), nm_e (sk_yin (n := 7) (by omega) rfl (fun b => br_f (by decide) ⟨vp_in_nI hj (by omega), nm_e ⟨rfl, sk_rel I⟩⟩) (fun b => absurd ⟨j, hj, rfl⟩ b))⟩
theorem sk_xiel {post : Int32 → Prop} {x y : Int32} (H1 : sk_is 2 x → sk_is 8 y → post 1) (H0 : ¬ (sk_is 2 x ∧ sk_is 8 y) → post 0) : wpX_isElement post x y := by
  unfold wpX_isElement
  refine sk_xia (fun a => br_f (by decide) ?_) (fun a => br_t rfl (H0 (fun w => a w.1)))
  exact sk_is_c y (n := 8) (by decide) (fun h0 h1 h => br_f h0 (br_f h1 (H1 a h))) (fun h w => by rcases w with w | ⟨w, v⟩; exact br_t w (H0 (fun q => h q.2)); exact br_f w (br_t v (H0 (fun q => h q.2))))
theorem sk_el {a j : Nat} (ha : a < 2) (hj : j < 8) : nI a * 8 + nI j = nI (8 * a + j) ∧ 8 * nI a + nI j = nI (8 * a + j) := by
  have h8 : (8 : Int32) = nI 8 := rfl
  rw [h8, pk_mul, pk_mul, nI_add, nI_add, Nat.mul_comm a 8]
  exact ⟨rfl, rfl⟩
theorem i_vc_element {k : Nat} {u : SX} {v : SY} (I : i_Rel k u v) (hk : k + 5 ≤ 2560) (v1 : Int32) (v2 : Int32) : wpX_element (fun r => wpY_element (fun r' => r' = r ∧ i_Rel (k + 5) u v) v v1 v2) u v1 v2 := by
  obtain ⟨M, N, lc, pc, pl, de, tp, hg, vs, es, lab, ek, ex, px, py, pz, ew, od, sec, rdo, sk, sx, sy, sz, sw, dp, so, sh, la, pa, vl, ps, pt, pr, ey, ez, hid, wld, oS, hS, wk, aw, fd, dg, st, rl, ch, rfl, rfl, I⟩ := I
  unfold wpX_element wpY_element
  refine sk_xiel (fun a a2 => br_f (by decide) ?_) (fun a => br_t rfl (sk_yin (n := 1) (by omega) rfl (fun b => br_f (by decide) (sk_yin (n := 7) (by omega) rfl (fun c => absurd ⟨b, c⟩ a) (fun c => br_t rfl ⟨rfl, sk_rel I⟩))) (fun b => br_t rfl ⟨rfl, sk_rel I⟩)))
  obtain ⟨i, hi, rfl⟩ := a
  obtain ⟨j, hj, rfl⟩ := a2
  obtain ⟨e1, e2⟩ := sk_el hi hj
  rw [e1, e2]
  exact ⟨vp_in_nI (by omega) (by omega), sk_yin (n := 1) (by omega) rfl (fun b => br_f (by decide) (sk_yin (n := 7) (by omega) rfl (fun c => br_f (by decide) ⟨vp_in_nI (by omega) (by omega), rfl, sk_rel I⟩) (fun c => absurd ⟨j, hj, rfl⟩ c))) (fun b => absurd ⟨i, hi, rfl⟩ b)⟩
theorem i_vc_setElement {k : Nat} {u : SX} {v : SY} (I : i_Rel k u v) (hk : k + 5 ≤ 2560) (v1 : Int32) (v2 : Int32) (v3 : Int32) : wpX_setElement (fun r u' => wpY_setElement (fun r' v' => r' = r ∧ i_Rel (k + 5) u' v') v v1 v2 v3) u v1 v2 v3 := by
  obtain ⟨M, N, lc, pc, pl, de, tp, hg, vs, es, lab, ek, ex, px, py, pz, ew, od, sec, rdo, sk, sx, sy, sz, sw, dp, so, sh, la, pa, vl, ps, pt, pr, ey, ez, hid, wld, oS, hS, wk, aw, fd, dg, st, rl, ch, rfl, rfl, I⟩ := I
  unfold wpX_setElement wpY_setElement
  refine sk_xiel (fun a a2 => br_f (by decide) ?_) (fun a => br_t rfl (sk_yin (n := 1) (by omega) rfl (fun b => br_f (by decide) (sk_yin (n := 7) (by omega) rfl (fun c => absurd ⟨b, c⟩ a) (fun c => br_t rfl ⟨rfl, sk_rel I⟩))) (fun b => br_t rfl ⟨rfl, sk_rel I⟩)))
  obtain ⟨i, hi, rfl⟩ := a
  obtain ⟨j, hj, rfl⟩ := a2
  obtain ⟨e1, e2⟩ := sk_el hi hj
  rw [e1, e2]
  exact ⟨vp_in_nI (by omega) (by omega), nm_e (sk_yin (n := 1) (by omega) rfl (fun b => br_f (by decide) (sk_yin (n := 7) (by omega) rfl (fun c => br_f (by decide) ⟨vp_in_nI (by omega) (by omega), nm_e ⟨rfl, sk_rel I⟩⟩) (fun c => absurd ⟨j, hj, rfl⟩ c))) (fun b => absurd ⟨i, hi, rfl⟩ b))⟩
theorem i_vc_level {k : Nat} {u : SX} {v : SY} (I : i_Rel k u v) (hk : k + 5 ≤ 2560) (v1 : Int32) : wpX_level (fun r => wpY_level (fun r' => r' = r ∧ i_Rel (k + 5) u v) v v1) u v1 := by
  obtain ⟨M, N, lc, pc, pl, de, tp, hg, vs, es, lab, ek, ex, px, py, pz, ew, od, sec, rdo, sk, sx, sy, sz, sw, dp, so, sh, la, pa, vl, ps, pt, pr, ey, ez, hid, wld, oS, hS, wk, aw, fd, dg, st, rl, ch, rfl, rfl, I⟩ := I
  unfold wpX_level wpY_level
  by_cases h0 : v1 < 0
  · exact br_t h0 (br_t h0 ⟨rfl, rfl, sk_rel I⟩)
  · by_cases h1 : 2 < v1
    · exact br_f h0 (br_t h1 (br_f h0 (br_t h1 ⟨rfl, rfl, sk_rel I⟩)))
    · exact br_f h0 (br_f h1 (br_f h0 (br_f h1 ⟨rfl, rfl, sk_rel I⟩)))
theorem i_vc_label {k : Nat} {u : SX} {v : SY} (I : i_Rel k u v) (hk : k + 5 ≤ 2560) (v1 : Int32) (v2 : Int32) : wpX_label (fun r u' => wpY_label (fun r' v' => r' = r ∧ i_Rel (k + 5) u' v') v v1 (lw_bz v2)) u v1 (lw_bz v2) := by
  obtain ⟨M, N, lc, pc, pl, de, tp, hg, vs, es, lab, ek, ex, px, py, pz, ew, od, sec, rdo, sk, sx, sy, sz, sw, dp, so, sh, la, pa, vl, ps, pt, pr, ey, ez, hid, wld, oS, hS, wk, aw, fd, dg, st, rl, ch, rfl, rfl, I⟩ := I
  obtain ⟨hM, hN, HE, HQ, HS, HF⟩ := I
  have I : sk_Inv M N lab ek ex ey ez ew px py pz od sec rdo sk sx sy sz sw dp so sh := ⟨hM, hN, HE, HQ, HS, HF⟩
  unfold wpY_label
  refine sk_is_c v1 (n := 10) (by decide) (fun h0 h1 h => ?_) (fun h w => ?_)
  · obtain ⟨j, hj, rfl⟩ := h
    have hl : nI j < 10 := nI_lt (b := 10) hj (by decide)
    have c := nI_clamp (show j < 2 ^ 31 by omega)
    refine br_f h0 (br_t hl ⟨vp_in_nI hj (by omega), nm_r (e' := upd lab j (vp_nar .boolean (lw_bz v2))) (by rw [c]) ⟨M + 1, ?_⟩⟩)
    refine sk_xl21 hM hN HE HS (fun sec' rdo' so' sh' g1 g2 => ?_) M 0 sec rdo (by omega) (fun _ h => absurd h (Nat.not_lt_zero _))
    exact sk_yin (n := 9) (by omega) rfl (fun b => br_f (by decide) ⟨vp_in_nI hj (by omega), nm_r (e' := upd lab j (vp_nar .boolean (lw_bz v2))) (by rw [c]) ⟨rfl, sk_rel ⟨hM, hN, HE, g1, HS, g2⟩⟩⟩) (fun b => absurd ⟨j, hj, rfl⟩ b)
  · rcases w with w | ⟨w, w2⟩
    · exact br_t w (sk_yin (n := 9) (by omega) rfl (fun b => absurd b h) (fun b => br_t rfl ⟨rfl, sk_rel I⟩))
    · exact br_f w (br_f (Int32.not_lt.mpr w2) (sk_yin (n := 9) (by omega) rfl (fun b => absurd b h) (fun b => br_t rfl ⟨rfl, sk_rel I⟩)))
theorem i_vc_secret {k : Nat} {u : SX} {v : SY} (I : i_Rel k u v) (hk : k + 5 ≤ 2560) (v1 : Int32) : wpX_secret (fun r => wpY_secret (fun r' v' => r' = r ∧ i_Rel (k + 5) u v') v v1) u v1 := by
  obtain ⟨M, N, lc, pc, pl, de, tp, hg, vs, es, lab, ek, ex, px, py, pz, ew, od, sec, rdo, sk, sx, sy, sz, sw, dp, so, sh, la, pa, vl, ps, pt, pr, ey, ez, hid, wld, oS, hS, wk, aw, fd, dg, st, rl, ch, rfl, rfl, I⟩ := I
  obtain ⟨hM, hN, HE, HQ, HS, HF⟩ := I
  have I : sk_Inv M N lab ek ex ey ez ew px py pz od sec rdo sk sx sy sz sw dp so sh := ⟨hM, hN, HE, HQ, HS, HF⟩
  unfold wpX_secret wpY_secret
  refine sk_xie hM (fun a => br_f (by decide) ?_) (fun a => br_t rfl ?_)
  · obtain ⟨e, he, rfl⟩ := a
    have c := nI_clamp (show e < 2 ^ 31 by omega)
    have i : vp_in (nI e) 50 := vp_in_nI (by omega) (by omega)
    rw [c]
    refine ⟨i, br_c (fun z => sk_yfs hM HE HQ (fun hid' wld' h => ?_)) (fun z => sk_yfs hM HE HQ (fun hid' wld' h => ?_))⟩
    · exact sk_yie hM (fun _ => br_f (by decide) ⟨i, br_t ((h e he).1.mpr z) ⟨rfl, sk_rel I⟩⟩) (fun w => absurd ⟨e, he, rfl⟩ w)
    · exact sk_yie hM (fun _ => br_f (by decide) ⟨i, br_f (fun w => z ((h e he).1.mp w)) ⟨rfl, sk_rel I⟩⟩) (fun w => absurd ⟨e, he, rfl⟩ w)
  · exact sk_yfs hM HE HQ (fun hid' wld' h => sk_yie hM (fun w => absurd w a) (fun _ => br_t rfl ⟨rfl, sk_rel I⟩))
theorem i_vc_safe {k : Nat} {u : SX} {v : SY} (I : i_Rel k u v) (hk : k + 5 ≤ 2560) (v1 : Int32) : wpX_safe (fun r => wpY_safe (fun r' v' => r' = r ∧ i_Rel (k + 5) u v') v v1) u v1 := by
  obtain ⟨M, N, lc, pc, pl, de, tp, hg, vs, es, lab, ek, ex, px, py, pz, ew, od, sec, rdo, sk, sx, sy, sz, sw, dp, so, sh, la, pa, vl, ps, pt, pr, ey, ez, hid, wld, oS, hS, wk, aw, fd, dg, st, rl, ch, rfl, rfl, I⟩ := I
  obtain ⟨hM, hN, HE, HQ, HS, HF⟩ := I
  have I : sk_Inv M N lab ek ex ey ez ew px py pz od sec rdo sk sx sy sz sw dp so sh := ⟨hM, hN, HE, HQ, HS, HF⟩
  unfold wpX_safe wpY_safe
  refine sk_xit hN (fun a => br_f (by decide) ?_) (fun a => br_t rfl ?_)
  · obtain ⟨e, he, rfl⟩ := a
    have c := nI_clamp (show e < 2 ^ 31 by omega)
    have i : vp_in (nI e) 40 := vp_in_nI (by omega) (by omega)
    rw [c]
    refine ⟨i, br_c (fun z => sk_yfa hM hN HE HQ HS HF (fun hid' wld' oS' hS' h h2 => ?_)) (fun z => sk_yfa hM hN HE HQ HS HF (fun hid' wld' oS' hS' h h2 => ?_))⟩
    · exact sk_yit hN (fun _ => br_f (by decide) ⟨i, br_t ((h2 e he).mpr z) ⟨rfl, sk_rel I⟩⟩) (fun w => absurd ⟨e, he, rfl⟩ w)
    · exact sk_yit hN (fun _ => br_f (by decide) ⟨i, br_f (fun w => z ((h2 e he).mp w)) ⟨rfl, sk_rel I⟩⟩) (fun w => absurd ⟨e, he, rfl⟩ w)
  · exact sk_yfa hM hN HE HQ HS HF (fun hid' wld' oS' hS' h h2 => sk_yit hN (fun w => absurd w a) (fun _ => br_t rfl ⟨rfl, sk_rel I⟩))
