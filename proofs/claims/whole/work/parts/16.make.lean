/-! 16: express and state -/
section
variable {M N : Nat} {lab ek ex ey ez ew px py pz od sec rdo sk sx sy sz sw dp so sh od' sec' rdo' so' sh' : sk_F}
theorem sk_invE {m W : Nat} {x y z q1 q2 q3 : Int32} (I : sk_Inv M N lab ek ex ey ez ew px py pz od sec rdo sk sx sy sz sw dp so sh) (hM : M < 50)
    (hn : sk_node (upd ek M (nI m)) (upd ex M x) (upd ey M y) (upd ez M z) (upd ew M (nI W)) (upd px M q1) (upd py M q2) (upd pz M q3) od' M)
    (ho : ∀ j, j < 30 * M → od' j = od j) (g1 : ∀ j, ¬ j = M → sec' j = sec j ∧ rdo' j = rdo j) (g2 : sk_se lab (upd ek M (nI m)) (upd ex M x) (upd px M q1) (upd py M q2) (upd pz M q3) sec' rdo' M) :
    sk_Inv (M + 1) N lab (upd ek M (nI m)) (upd ex M x) (upd ey M y) (upd ez M z) (upd ew M (nI W)) (upd px M q1) (upd py M q2) (upd pz M q3) od' sec' rdo' sk sx sy sz sw dp so sh := by
  obtain ⟨_, hN, HE, HQ, HS, HF⟩ := I
  refine ⟨by omega, hN, ?_, ?_, ?_, ?_⟩
  · intro e he
    by_cases h : e = M
    · subst h
      exact hn
    · exact sk_node_up (HE e (by omega)) (fun j hj => ⟨pk_un (by omega), pk_un (by omega), pk_un (by omega), pk_un (by omega), pk_un (by omega), pk_un (by omega), pk_un (by omega), pk_un (by omega)⟩) (fun j hj => ho j (by omega))
  · intro e he
    by_cases h : e = M
    · subst h
      exact g2
    · exact sk_se_up (HQ e (by omega)) (by omega) (sk_node_pt (HE e (by omega))) (fun j hj => ⟨pk_un (by omega), pk_un (by omega), pk_un (by omega), pk_un (by omega), pk_un (by omega), (g1 j (by omega)).1, (g1 j (by omega)).2⟩)
  · exact fun s hs => sk_stm_upE (HS s hs) (fun j hj => pk_un (by omega))
  · exact fun s hs => sk_sfe_up (by omega) (by omega) (HS s hs) (fun j hj => g1 j (by omega)) (fun _ _ => ⟨rfl, rfl⟩) ⟨rfl, rfl, rfl, rfl⟩ (HF s hs)
theorem sk_invS {m W D : Nat} {x y z : Int32} (I : sk_Inv M N lab ek ex ey ez ew px py pz od sec rdo sk sx sy sz sw dp so sh) (hN : N < 40)
    (hn : sk_stm M ew (upd sk N (nI m)) (upd sx N x) (upd sy N y) (upd sz N z) (upd sw N (nI W)) (upd dp N (nI D)) N)
    (g1 : ∀ j, ¬ j = N → so' j = so j ∧ sh' j = sh j) (g2 : sk_sfe lab sec rdo (upd sk N (nI m)) (upd sx N x) (upd sy N y) (upd sz N z) so' sh' N) :
    sk_Inv M (N + 1) lab ek ex ey ez ew px py pz od sec rdo (upd sk N (nI m)) (upd sx N x) (upd sy N y) (upd sz N z) (upd sw N (nI W)) (upd dp N (nI D)) so' sh' := by
  obtain ⟨hM, _, HE, HQ, HS, HF⟩ := I
  refine ⟨hM, by omega, HE, HQ, ?_, ?_⟩
  · intro s hs
    by_cases h : s = N
    · subst h
      exact hn
    · exact sk_stm_upS (HS s (by omega)) (fun j hj => ⟨pk_un (by omega), pk_un (by omega), pk_un (by omega), pk_un (by omega), pk_un (by omega), pk_un (by omega)⟩)
  · intro s hs
    by_cases h : s = N
    · subst h
      exact g2
    · exact sk_sfe_up hM (by omega) (HS s (by omega)) (fun _ _ => ⟨rfl, rfl⟩) (fun j hj => g1 j (by omega)) ⟨pk_un h, pk_un h, pk_un h, pk_un h⟩ (HF s (by omega))
theorem sk_sp_b {m W D : Nat} {x y z : Int32} (hw30 : ∀ p, p < M → sk_w ew p ≤ 30) (hs30 : ∀ p, p < N → sk_w sw p ≤ 30) (hd3 : ∀ p, p < N → sk_w dp p ≤ 3) (h : sk_sp M N ew sw dp m x y z W D) : W ≤ 100 ∧ D ≤ 4 := by
  rcases h with ⟨_, v, p, _, hp, h⟩ | ⟨_, a, p, q, _, hp, hq, h⟩ | ⟨_, p, q, hp, hq, h⟩ | ⟨_, p, q, hp, hq, _, _, h | ⟨r, hr, h⟩⟩ | ⟨_, t, q, _, _, hq, h⟩ | ⟨_, p, q, hp, hq, h⟩ | ⟨_, p, hp, h⟩
  · have := hw30 p hp; omega
  · have := hw30 p hp; have := hw30 q hq; omega
  · have := hs30 p hp; have := hs30 q hq; have := hd3 p hp; have := hd3 q hq; omega
  · have := hw30 p hp; have := hs30 q hq; have := hd3 q hq; omega
  · have := hw30 p hp; have := hs30 q hq; have := hd3 q hq; have := hs30 r hr; have := hd3 r hr; omega
  · have := hs30 q hq; have := hd3 q hq; omega
  · have := hw30 p hp; have := hs30 q hq; have := hd3 q hq; omega
  · have := hw30 p hp; omega
end
theorem i_vc_express {k : Nat} {u : SX} {v : SY} (I : i_Rel k u v) (hk : k + 5 ≤ 2560) (v1 : Int32) (v2 : Int32) (v3 : Int32) (v4 : Int32) : wpX_express (fun r u' => wpY_express (fun r' v' => r' = r ∧ i_Rel (k + 5) u' v') v v1 v2 v3 v4) u v1 v2 v3 v4 := by
  obtain ⟨M, N, lc, pc, pl, de, tp, hg, vs, es, lab, ek, ex, px, py, pz, ew, od, sec, rdo, sk, sx, sy, sz, sw, dp, so, sh, la, pa, vl, ps, pt, pr, ey, ez, hid, wld, oS, hS, wk, aw, fd, dg, st, rl, ch, rfl, rfl, I⟩ := I
  obtain ⟨hM, hN, HE, HQ, HS, HF⟩ := I
  have I : sk_Inv M N lab ek ex ey ez ew px py pz od sec rdo sk sx sy sz sw dp so sh := ⟨hM, hN, HE, HQ, HS, HF⟩
  have hw : ∀ p, p < M → ew p = nI (sk_w ew p) := fun p hp => (HE p hp).1.1
  have hw30 : ∀ p, p < M → sk_w ew p ≤ 30 := fun p hp => (HE p hp).1.2.1
  by_cases hf : M = 50
  · subst hf
    exact br_f (by decide) (br_t rfl ⟨rfl, sk_rel I⟩)
  · have hM' : M < 50 := by omega
    have hne : ¬ nI M = 50 := fun w => absurd ((nI_eq (b := 50) (by omega) (by omega)).mp w) (by omega)
    by_cases h0 : v1 < 0
    · refine br_t (nI_lt (b := 50) hM' (by decide)) (br_t h0 (br_f hne ?_))
      exact sk_yin (n := 14) (by omega) rfl (fun b => by obtain ⟨j, hj, rfl⟩ := b; exact absurd h0 (nI_pos (by omega))) (fun b => br_t rfl ⟨rfl, sk_rel I⟩)
    · by_cases h1 : 14 < v1
      · refine br_t (nI_lt (b := 50) hM' (by decide)) (br_f h0 (br_t h1 (br_f hne ?_)))
        exact sk_yin (n := 14) (by omega) rfl (fun b => by obtain ⟨j, hj, rfl⟩ := b; exact absurd h1 (nI_nlt (a := 14) (by omega) (by decide))) (fun b => br_t rfl ⟨rfl, sk_rel I⟩)
      · obtain ⟨m, hm, rfl⟩ := nI_of2 (M := 14) (n := 14) (by decide) h0 (Int32.not_lt.mp h1)
        refine sk_xexp hM' hm (fun hf => sk_yexp hM' hm (fun _ => ⟨rfl, sk_rel I⟩) (fun w => absurd w hf)) (fun hf => ?_)
        obtain ⟨f1, f2, f3⟩ := sk_fit_fl hm hf
        refine sk_x78 (ey := upd ey M v3) (ez := upd ez M v4) hM' (sk_fl_pt f1) (sk_fl_pt f2) (sk_fl_pt f3) hw hw30 (fun hgt => ?_) (fun hle od' o1 o2 o3 o4 o5 => sk_newn hM' hm hf f1 f2 f3 rfl hle o2 o3 o4 o5) (fun hle od' sec' rdo' o1 o2 o3 o4 o5 g1 g2 => ?_)
        · exact sk_yexp hM' hm (fun w => absurd hf w) (fun _ => sk_y105 hM' hm hf hw hw30 (fun _ => ⟨rfl, sk_rel I⟩) (fun hle => absurd hgt (by omega)))
        · have I' := sk_invE (x := v2) (y := v3) (z := v4) (m := m) I hM' (sk_newn hM' hm hf f1 f2 f3 rfl hle o2 o3 o4 o5) o1 g1 g2
          exact sk_yexp hM' hm (fun w => absurd hf w) (fun _ => sk_y105 hM' hm hf hw hw30 (fun hgt => absurd hle (by omega)) (fun _ => ⟨rfl, sk_rel I'⟩))
theorem i_vc_state {k : Nat} {u : SX} {v : SY} (I : i_Rel k u v) (hk : k + 5 ≤ 2560) (v1 : Int32) (v2 : Int32) (v3 : Int32) (v4 : Int32) : wpX_state (fun r u' => wpY_state (fun r' v' => r' = r ∧ i_Rel (k + 5) u' v') v v1 v2 v3 v4) u v1 v2 v3 v4 := by
  obtain ⟨M, N, lc, pc, pl, de, tp, hg, vs, es, lab, ek, ex, px, py, pz, ew, od, sec, rdo, sk, sx, sy, sz, sw, dp, so, sh, la, pa, vl, ps, pt, pr, ey, ez, hid, wld, oS, hS, wk, aw, fd, dg, st, rl, ch, rfl, rfl, I⟩ := I
  obtain ⟨hM, hN, HE, HQ, HS, HF⟩ := I
  have I : sk_Inv M N lab ek ex ey ez ew px py pz od sec rdo sk sx sy sz sw dp so sh := ⟨hM, hN, HE, HQ, HS, HF⟩
  have hw : ∀ p, p < M → ew p = nI (sk_w ew p) := fun p hp => (HE p hp).1.1
  have hw30 : ∀ p, p < M → sk_w ew p ≤ 30 := fun p hp => (HE p hp).1.2.1
  have hwS : ∀ p, p < N → sw p = nI (sk_w sw p) := fun p hp => (HS p hp).1.1
  have hdS : ∀ p, p < N → dp p = nI (sk_w dp p) := fun p hp => (HS p hp).1.2.1
  have hs30 : ∀ p, p < N → sk_w sw p ≤ 30 := fun p hp => (HS p hp).1.2.2.2.1
  have hd3 : ∀ p, p < N → sk_w dp p ≤ 3 := fun p hp => (HS p hp).1.2.2.2.2
  by_cases hf : N = 40
  · subst hf
    exact br_f (by decide) (br_t rfl ⟨rfl, sk_rel I⟩)
  · have hN' : N < 40 := by omega
    have hne : ¬ nI N = 40 := fun w => absurd ((nI_eq (b := 40) (by omega) (by omega)).mp w) (by omega)
    by_cases h0 : v1 < 0
    · refine br_t (nI_lt (b := 40) hN' (by decide)) (br_t h0 (br_f hne ?_))
      exact sk_yin (n := 6) (by omega) rfl (fun b => by obtain ⟨j, hj, rfl⟩ := b; exact absurd h0 (nI_pos (by omega))) (fun b => br_t rfl ⟨rfl, sk_rel I⟩)
    · by_cases h1 : 6 < v1
      · refine br_t (nI_lt (b := 40) hN' (by decide)) (br_f h0 (br_t h1 (br_f hne ?_)))
        exact sk_yin (n := 6) (by omega) rfl (fun b => by obtain ⟨j, hj, rfl⟩ := b; exact absurd h1 (nI_nlt (a := 6) (by omega) (by decide))) (fun b => br_t rfl ⟨rfl, sk_rel I⟩)
      · obtain ⟨m, hm, rfl⟩ := nI_of2 (M := 6) (n := 6) (by decide) h0 (Int32.not_lt.mp h1)
        have hb : ∀ W D, sk_sp M N ew sw dp m v2 v3 v4 W D → W ≤ 100 ∧ D ≤ 4 := fun W D h => sk_sp_b hw30 hs30 hd3 h
        refine sk_xst hM hN' hw hwS hdS hd3 hw30 hs30 hm (fun hf => ?_) (fun W D h hn => ?_) (fun W D h hW hD so' sh' a1 a2 => ?_)
        · exact sk_yst hM hN' hw hwS hdS hd3 hm (fun _ => ⟨rfl, sk_rel I⟩) (fun W D h => absurd ⟨W, D, h⟩ hf) hb (fun W D h => absurd ⟨W, D, h⟩ hf)
        · exact sk_yst hM hN' hw hwS hdS hd3 hm (fun w => absurd ⟨W, D, h⟩ w) (fun _ _ _ _ => ⟨rfl, sk_rel I⟩) hb (fun W' D' h' g1 g2 => by obtain ⟨e1, e2⟩ := sk_sp_u hM hN h h'; subst e1 e2; exact absurd ⟨g1, g2⟩ hn)
        · have I' := sk_invS I hN' (sk_news h hW hD) a1 a2
          refine sk_yst hM hN' hw hwS hdS hd3 hm (fun w => absurd ⟨W, D, h⟩ w) (fun W' D' h' hn => ?_) hb (fun W' D' h' _ _ => ?_)
          · obtain ⟨e1, e2⟩ := sk_sp_u hM hN h h'
            subst e1 e2
            exact absurd ⟨hW, hD⟩ hn
          · obtain ⟨e1, e2⟩ := sk_sp_u hM hN h h'
            subst e1 e2
            exact ⟨rfl, sk_rel I'⟩
