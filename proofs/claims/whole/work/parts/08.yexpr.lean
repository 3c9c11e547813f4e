/-! 08: Y: one leak; one step of the walk through an expression; an expression worked out -/
section
variable {nM nN de tq hg : Int32} {M N lc pc b d tp : Nat} {vs es lab ek ex ey ez px py pz ew od hid wld sk sx sy sz sw dp oS hS la pa wk aw fd dg st rl ch : sk_F}
theorem sk_yleak {post : SY → Prop} {v : Int32} (h : lc < 2 ^ 30) (H : post (nM, nN, nI (lc + 1), nI pc, de, tq, hg, ek, ex, ey, ez, ew, hid, wld, sk, sx, sy, sz, sw, dp, oS, hS, lab, vs, es, sk_put 200 lc la v, pa, wk, aw, fd, dg, st, rl, ch)) : wpY_leakOut post (nM, nN, nI lc, nI pc, de, tq, hg, ek, ex, ey, ez, ew, hid, wld, sk, sx, sy, sz, sw, dp, oS, hS, lab, vs, es, la, pa, wk, aw, fd, dg, st, rl, ch) v := by
  unfold wpY_leakOut
  dsimp only
  refine pk_le 200 lc (fun h2 => ?_) (fun h2 => ?_)
  · rw [sk_put_ge h2] at H
    exact nm_r (nI_1 lc) H
  · rw [sk_put_lt h2] at H
    exact ⟨vp_in_nI h2 (by omega), nm_r (by rw [nI_clamp (by omega)]) (nm_r (nI_1 lc) H)⟩
theorem sk_ybegin {post : SY → Prop} {p0 p1 : Int32} (e0 : p0 = p1) (h : d < 32) (H : post (nM, nN, nI lc, nI pc, nI (d + 1), nI tp, hg, ek, ex, ey, ez, ew, hid, wld, sk, sx, sy, sz, sw, dp, oS, hS, lab, vs, es, la, pa, upd wk d p1, upd aw d 0, fd, dg, st, rl, ch)) : wpY_begin post (nM, nN, nI lc, nI pc, nI d, nI tp, hg, ek, ex, ey, ez, ew, hid, wld, sk, sx, sy, sz, sw, dp, oS, hS, lab, vs, es, la, pa, wk, aw, fd, dg, st, rl, ch) p0 := by
  subst e0
  have i : vp_in (nI d) 32 := vp_in_nI h (by omega)
  have c := nI_clamp (show d < 2 ^ 31 by omega)
  unfold wpY_begin
  dsimp only
  rw [c]
  exact ⟨i, nm_e ⟨i, nm_e (nm_r (nI_1 d) H)⟩⟩
theorem sk_yjoin {post : Int32 → Prop} {k x y : Int32} (H : post (sk_cb k x y)) : wpY_joined post (nM, nN, nI lc, nI pc, de, tq, hg, ek, ex, ey, ez, ew, hid, wld, sk, sx, sy, sz, sw, dp, oS, hS, lab, vs, es, la, pa, wk, aw, fd, dg, st, rl, ch) k x y := by
  unfold wpY_joined
  dsimp only
  unfold sk_cb at H
  refine br_c (fun h => by rw [if_pos h] at H; exact H) (fun h => ?_)
  rw [if_neg h] at H
  refine br_c (fun h => by rw [if_pos h] at H; exact H) (fun h => ?_)
  rw [if_neg h] at H
  refine br_c (fun h => by rw [if_pos h] at H; exact H) (fun h => ?_)
  rw [if_neg h] at H
  refine br_c (fun h => by rw [if_pos h] at H; exact H) (fun h => ?_)
  rw [if_neg h] at H
  refine br_c (fun h => by rw [if_pos h] at H; exact H) (fun h => ?_)
  rw [if_neg h] at H
  refine br_c (fun h => by rw [if_pos h] at H; exact H) (fun h => ?_)
  rw [if_neg h] at H
  refine br_c (fun h => by rw [if_pos h] at H; exact H) (fun h => ?_)
  rw [if_neg h] at H
  refine br_c (fun h => by rw [if_pos h] at H; exact H) (fun h => ?_)
  rw [if_neg h] at H
  refine br_c (fun h => ?_) (fun h => ?_)
  · rw [if_pos h] at H
    refine br_c (fun h => by rw [if_pos h] at H; exact H) (fun h => by rw [if_neg h] at H; exact H)
  · rw [if_neg h] at H
    refine br_c (fun h => by rw [if_pos h] at H; exact H) (fun h => by rw [if_neg h] at H; exact H)
theorem sk_y45 {post : SY → Prop} {e : Nat} {z0 z1 : Int32} (he : e < 50) (hn : sk_node ek ex ey ez ew px py pz od e) (ht : tp < 31) (hz : z1 + z0 = nI (sk_ar ek e)) (hlc : lc < 2 ^ 30)
    (H : post (nM, nN, nI (sk_lc ek e lc), nI pc, nI d, nI (tp + 1), hg, ek, ex, ey, ez, ew, hid, wld, sk, sx, sy, sz, sw, dp, oS, hS, lab, vs, es, sk_la ek ex e (fd tp) lc la, pa, wk, aw, upd fd tp (sk_nv ek ex vs es e (fd tp) (fd (tp + 1)) (fd (tp + 2))), dg, st, rl, ch)) : wY_close_45 post (nI e) (ek e) z0 z1 nM nN (nI lc) (nI pc) (nI (d + 1)) (nI (tp + sk_ar ek e)) hg ek ex ey ez ew hid wld sk sx sy sz sw dp oS hS lab vs es la pa wk aw fd dg st rl ch := by
  have i50 : vp_in (nI e) 50 := vp_in_nI he (by omega)
  have it : vp_in (nI tp) 34 := vp_in_nI (by omega) (by omega)
  have i1 : vp_in (nI tp + 1) 34 := by rw [nI_1]; exact vp_in_nI (by omega) (by omega)
  have e2 : nI tp + 2 = nI (tp + 2) := by rw [show (2 : Int32) = nI 2 from rfl, nI_add]
  have i2 : vp_in (nI tp + 2) 34 := by rw [e2]; exact vp_in_nI (by omega) (by omega)
  have ce := nI_clamp (show e < 2 ^ 31 by omega)
  have ct := nI_clamp (show tp < 2 ^ 31 by omega)
  have c1 : (nI tp + 1).toNatClampNeg = tp + 1 := by rw [nI_1]; exact nI_clamp (by omega)
  have c2 : (nI tp + 2).toNatClampNeg = tp + 2 := by rw [e2]; exact nI_clamp (by omega)
  unfold wY_close_45 wY_close_216 wY_close_232
  refine nm_r hz (nm_r sk_sub ⟨it, nm_r (by rw [ct]) ⟨i1, nm_r (by rw [c1]) ?_⟩⟩)
  rw [ce, c2, ct]
  rcases hn.2 with ⟨k, _⟩ | ⟨k, _, _, _, _, v, hv, hx⟩ | ⟨k, _, _, a, p, ha, _, hx, _⟩ | ⟨k, _⟩ | ⟨k, _⟩ | ⟨k, _⟩
  · rw [sk_nv_0 k, sk_lc_n (sk_n2_0 k), sk_la_n (sk_n2_0 k)] at H
    exact br_t k ⟨i50, nm_e ⟨it, nm_e (nm_r (nI_1 tp) (nm_r (nI_pred d) H))⟩⟩
  · rw [sk_nv_1 k, sk_lc_n (sk_n2_1 k), sk_la_n (sk_n2_1 k)] at H
    have e7 : ex e &&& 7 = ex e := by
      rw [hx, pk_andN (by omega) 3 (by decide), Nat.mod_eq_of_lt (by omega)]
    rw [e7]
    exact br_f (by rw [k]; decide) (br_t k ⟨i50, by rw [hx]; exact vp_in_nI hv (by omega), nm_e ⟨it, nm_e (nm_r (nI_1 tp) (nm_r (nI_pred d) H))⟩⟩)
  · rw [sk_nv_2 k, sk_lc_2 k, sk_la_2 k] at H
    obtain ⟨j, hj, ej, ej2, ej3⟩ := sk_pl ha (fd tp)
    refine br_f (by rw [k]; decide) (br_f (by rw [k]; decide) (br_t k ⟨i50, ?_⟩))
    rw [hx, ej3 16]
    rw [hx] at H
    refine sk_yleak hlc ⟨i50, ?_⟩
    rw [hx, ej2, ct]
    rw [ej] at H ⊢
    exact ⟨vp_in_nI hj (by omega), nm_e ⟨it, nm_e (nm_r (nI_1 tp) (nm_r (nI_pred d) H))⟩⟩
  · rw [sk_nv_13 k, sk_lc_n (sk_n2_13 k), sk_la_n (sk_n2_13 k)] at H
    exact br_f (by rw [k]; decide) (br_f (by rw [k]; decide) (br_f (by rw [k]; decide) (br_t k (nm_e ⟨it, nm_e (nm_r (nI_1 tp) (nm_r (nI_pred d) H))⟩))))
  · rw [sk_nv_14 k, sk_lc_n (sk_n2_14 k), sk_la_n (sk_n2_14 k)] at H
    refine br_f (by rw [k]; decide) (br_f (by rw [k]; decide) (br_f (by rw [k]; decide) (br_f (by rw [k]; decide) (br_t k (br_c (fun z => ⟨i2, ?_⟩) (fun z => ?_))))))
    · rw [if_pos z] at H
      exact ⟨it, nm_e (nm_r (nI_1 tp) (nm_r (nI_pred d) H))⟩
    · rw [if_neg z] at H
      exact ⟨it, nm_e (nm_r (nI_1 tp) (nm_r (nI_pred d) H))⟩
  · rw [sk_nv_b k, sk_lc_n (sk_n2_b k), sk_la_n (sk_n2_b k)] at H
    obtain ⟨n0, n1, n2, n13, n14⟩ := sk_bin_ne k
    exact br_f n0 (br_f n1 (br_f n2 (br_f n13 (br_f n14 (sk_yjoin ⟨it, nm_e (nm_r (nI_1 tp) (nm_r (nI_pred d) H))⟩)))))
theorem sk_yclose {post : SY → Prop} {e : Nat} (he : e < 50) (hn : sk_node ek ex ey ez ew px py pz od e) (ht : tp < 31) (hlc : lc < 2 ^ 30)
    (H : post (nM, nN, nI (sk_lc ek e lc), nI pc, nI d, nI (tp + 1), hg, ek, ex, ey, ez, ew, hid, wld, sk, sx, sy, sz, sw, dp, oS, hS, lab, vs, es, sk_la ek ex e (fd tp) lc la, pa, wk, aw, upd fd tp (sk_nv ek ex vs es e (fd tp) (fd (tp + 1)) (fd (tp + 2))), dg, st, rl, ch)) : wpY_close post (nM, nN, nI lc, nI pc, nI (d + 1), nI (tp + sk_ar ek e), hg, ek, ex, ey, ez, ew, hid, wld, sk, sx, sy, sz, sw, dp, oS, hS, lab, vs, es, la, pa, wk, aw, fd, dg, st, rl, ch) (nI e) := by
  have i50 : vp_in (nI e) 50 := vp_in_nI he (by omega)
  have ce := nI_clamp (show e < 2 ^ 31 by omega)
  refine ⟨i50, nm_r (e' := ek e) (by rw [ce]) ?_⟩
  rcases hn.2 with ⟨k, _⟩ | ⟨k, _, _, _, _, v, hv, hx⟩ | ⟨k, _, _, a, p, ha, _, hx, _⟩ | ⟨k, _⟩ | ⟨k, _⟩ | ⟨k, _⟩
  · exact br_t (by rw [k]; decide) (br_t rfl (br_f (by rw [k]; decide) (br_t (by rw [k]; decide) (br_t rfl (br_f (by rw [k]; decide) (sk_y45 he hn ht (by rw [sk_ar_0 k]; decide) hlc H))))))
  · exact br_t (by rw [k]; decide) (br_t rfl (br_f (by rw [k]; decide) (br_t (by rw [k]; decide) (br_t rfl (br_f (by rw [k]; decide) (sk_y45 he hn ht (by rw [sk_ar_1 k]; decide) hlc H))))))
  · exact br_t (by rw [k]; decide) (br_t rfl (br_t k (br_f (by decide) (br_f (by rw [k]; decide) (sk_y45 he hn ht (by rw [sk_ar_2 k]; decide) hlc H)))))
  · exact br_f (by rw [k]; decide) (br_f (by decide) (br_f (by rw [k]; decide) (br_f (by rw [k]; decide) (br_t k (br_t rfl (br_f (by rw [k]; decide) (sk_y45 he hn ht (by rw [sk_ar_13 k]; decide) hlc H)))))))
  · exact br_f (by rw [k]; decide) (br_f (by decide) (br_f (by rw [k]; decide) (br_f (by rw [k]; decide) (br_f (by rw [k]; decide) (br_f (by decide) (br_t k (sk_y45 he hn ht (by rw [sk_ar_14 k]; decide) hlc H)))))))
  · obtain ⟨n0, n1, n2, n13, n14⟩ := sk_bin_ne k
    have g3 : ¬ ek e < 3 := Int32.not_lt.mpr (sk_bin_ge k)
    exact br_f g3 (br_f (by decide) (br_f n2 (br_f g3 (br_f n13 (br_f (by decide) (br_f n14 (sk_y45 he hn ht (by rw [sk_ar_b k]; decide) hlc H)))))))
theorem sk_ystc {post : SY → Prop} {e g : Nat} (he : e < 50) (hn : sk_node ek ex ey ez ew px py pz od e) (hd : d < 31) (ht : tp < 31) (hlc : lc < 2 ^ 30) (h1 : wk d = nI e) (h2 : aw d = nI g) (hc : sk_cl ek e g)
    (H : ∀ aw2 : sk_F, (∀ j, j < d → aw2 j = aw j) → post (nM, nN, nI (sk_lc ek e lc), nI pc, nI d, nI (tp + 1), hg, ek, ex, ey, ez, ew, hid, wld, sk, sx, sy, sz, sw, dp, oS, hS, lab, vs, es, sk_la ek ex e (fd tp) lc la, pa, wk, aw2, upd fd tp (sk_nv ek ex vs es e (fd tp) (fd (tp + 1)) (fd (tp + 2))), dg, st, rl, ch)) : wpY_stepIn post (nM, nN, nI lc, nI pc, nI (d + 1), nI (tp + sk_ar ek e), hg, ek, ex, ey, ez, ew, hid, wld, sk, sx, sy, sz, sw, dp, oS, hS, lab, vs, es, la, pa, wk, aw, fd, dg, st, rl, ch) := by
  have i50 : vp_in (nI e) 50 := vp_in_nI he (by omega)
  have ce := nI_clamp (show e < 2 ^ 31 by omega)
  have id : vp_in (nI d) 32 := vp_in_nI (by omega) (by omega)
  have cd := nI_clamp (show d < 2 ^ 31 by omega)
  have hp1 : nI (d + 1) - 1 = nI d := nI_pred d
  unfold wpY_stepIn
  dsimp only
  rw [hp1, cd]
  refine ⟨id, nm_r h1 ⟨i50, nm_r (e' := ek e) (by rw [ce]) ⟨id, nm_r h2 ⟨id, id, nm_e ?_⟩⟩⟩⟩
  have C := sk_yclose (post := post) (aw := upd aw d (aw d + 1)) (hg := hg) he hn ht hlc (H _ (fun j hj => pk_un (by omega)))
  rcases hc with ⟨k, rfl⟩ | ⟨k, rfl⟩ | ⟨k, rfl⟩ | ⟨k, rfl⟩ | ⟨k, rfl⟩
  · have k3 : ek e < 3 := by rcases k with k | k <;> rw [k] <;> decide
    have k2 : ¬ ek e = 2 := by rcases k with k | k <;> rw [k] <;> decide
    have k14 : ¬ ek e = 14 := by rcases k with k | k <;> rw [k] <;> decide
    exact br_t rfl (br_t k3 (br_t rfl (br_f (by decide) (br_f k2 (br_t k3 (br_t rfl (br_f (by decide) (br_f k14 C))))))))
  · exact br_f (by decide) (br_f (by decide) (br_f (by rw [k]; decide) (br_f (by rw [k]; decide) (br_t k (br_t rfl (br_f (by decide) (br_f (by rw [k]; decide) C)))))))
  · exact br_f (by decide) (br_t (by decide) (br_f (by decide) (br_f (by rw [k]; decide) C)))
  · exact br_f (by decide) (br_t (by decide) (br_f (by decide) (br_f (sk_bin_ne k).2.2.2.2 C)))
  · exact br_f (by decide) (br_t (by decide) (br_t (by decide) C))
theorem sk_ystb {post : SY → Prop} {e g g' p : Nat} (he : e < 50) (hd : d < 31) (h1 : wk d = nI e) (h2 : aw d = nI g) (hx : sk_nx ek ex ey ez e g g' p)
    (H : ∀ wk2 aw2 : sk_F, (∀ j, j < d + 1 → wk2 j = wk j) → (∀ j, j < d → aw2 j = aw j) → aw2 d = nI g' → wk2 (d + 1) = nI p → aw2 (d + 1) = 0 → post (nM, nN, nI lc, nI pc, nI (d + 1 + 1), nI tp, hg, ek, ex, ey, ez, ew, hid, wld, sk, sx, sy, sz, sw, dp, oS, hS, lab, vs, es, la, pa, wk2, aw2, fd, dg, st, rl, ch)) : wpY_stepIn post (nM, nN, nI lc, nI pc, nI (d + 1), nI tp, hg, ek, ex, ey, ez, ew, hid, wld, sk, sx, sy, sz, sw, dp, oS, hS, lab, vs, es, la, pa, wk, aw, fd, dg, st, rl, ch) := by
  have i50 : vp_in (nI e) 50 := vp_in_nI he (by omega)
  have ce := nI_clamp (show e < 2 ^ 31 by omega)
  have id : vp_in (nI d) 32 := vp_in_nI (by omega) (by omega)
  have cd := nI_clamp (show d < 2 ^ 31 by omega)
  have hp1 : nI (d + 1) - 1 = nI d := nI_pred d
  unfold wpY_stepIn
  dsimp only
  rw [hp1, cd]
  refine ⟨id, nm_r h1 ⟨i50, nm_r (e' := ek e) (by rw [ce]) ⟨id, nm_r h2 ⟨id, id, nm_e ?_⟩⟩⟩⟩
  have hb3 : ∀ {f : sk_F}, sk_bin f e → ¬ f e < 3 := fun z => Int32.not_lt.mpr (sk_bin_ge z)
  rcases hx with ⟨k, rfl, rfl, x⟩ | ⟨k, rfl, rfl, x⟩ | ⟨k, rfl, rfl, x⟩ | ⟨k, rfl, rfl, x⟩
  · refine br_t rfl (br_t (by rw [k]; decide) (br_t rfl (br_f (by decide) (br_t k (br_f (by decide) (br_f (by decide) (br_t (by rw [k]; decide) (br_t rfl ?_))))))))
    unfold wY_stepIn_97
    rw [hp1, cd]
    exact ⟨id, nm_e ⟨i50, sk_ybegin (by rw [ce]; exact x) (by omega) (H _ _ (fun j hj => pk_un (by omega)) (fun j hj => (pk_un (by omega)).trans ((pk_un (by omega)).trans (pk_un (by omega)))) ((pk_un (by omega)).trans pk_us) pk_us pk_us)⟩⟩
  · have k3 : ¬ ek e < 3 := by
      rcases k with k | k | k
      · rw [k]; decide
      · rw [k]; decide
      · exact hb3 k
    refine br_t rfl (br_f k3 (br_f (by decide) ⟨i50, ?_⟩))
    refine sk_ybegin (by rw [ce]; exact x) (by omega) (H _ _ (fun j hj => pk_un (by omega)) (fun j hj => (pk_un (by omega)).trans (pk_un (by omega))) ((pk_un (by omega)).trans (pk_us.trans (by rw [h2]; rfl))) pk_us pk_us)
  · have k3 : ¬ ek e < 3 := by
      rcases k with k | k
      · rw [k]; decide
      · exact hb3 k
    have k2 : ¬ ek e = 2 := by
      rcases k with k | k
      · rw [k]; decide
      · exact (sk_bin_ne k).2.2.1
    have k13 : ¬ ek e = 13 := by
      rcases k with k | k
      · rw [k]; decide
      · exact (sk_bin_ne k).2.2.2.1
    refine br_f (by decide) (br_f (by decide) (br_f k2 (br_f k3 (br_f k13 (br_f (by decide) (br_t rfl ?_))))))
    unfold wY_stepIn_97
    rw [hp1, cd]
    exact ⟨id, nm_e ⟨i50, sk_ybegin (by rw [ce]; exact x) (by omega) (H _ _ (fun j hj => pk_un (by omega)) (fun j hj => (pk_un (by omega)).trans ((pk_un (by omega)).trans (pk_un (by omega)))) ((pk_un (by omega)).trans pk_us) pk_us pk_us)⟩⟩
  · refine br_f (by decide) (br_t (by decide) (br_f (by decide) (br_t k ⟨i50, ?_⟩)))
    exact sk_ybegin (by rw [ce]; exact x) (by omega) (H _ _ (fun j hj => pk_un (by omega)) (fun j hj => (pk_un (by omega)).trans (pk_un (by omega))) ((pk_un (by omega)).trans (pk_us.trans (by rw [h2]; rfl))) pk_us pk_us)
/-- the loop of work keeps Y's rules -/
theorem sk_yry {post : Int32 → SY → Prop} (hM : M ≤ 50) (HE : ∀ e, e < M → sk_node ek ex ey ez ew px py pz od e) : sk_RY M ek ex ey ez vs es (fun n k d tp lc la wk aw fd => wY_work_17 post n (nI k) nM nN (nI lc) (nI pc) (nI d) (nI tp) hg ek ex ey ez ew hid wld sk sx sy sz sw dp oS hS lab vs es la pa wk aw fd dg st rl ch) := by
  constructor
  · intro n k d tp lc la wk aw fd e g he h1 h2 hc hk hd ht ht2 hlc H
    refine br_f (nI_ge (b := 120) hk (by decide)) (br_f (nI_nle (by omega) (by omega)) ?_)
    exact sk_ystc (by omega) (HE e he) hd ht hlc h1 h2 hc (fun aw2 h => nm_r (nI_1 k) (H aw2 h))
  · intro n k d tp lc la wk aw fd e g g' p he h1 h2 hx hk hd H
    refine br_f (nI_ge (b := 120) hk (by decide)) (br_f (nI_nle (by omega) (by omega)) ?_)
    exact sk_ystb (by omega) hd h1 h2 hx (fun wk2 aw2 a1 a2 a3 a4 a5 => nm_r (nI_1 k) (H wk2 aw2 a1 a2 a3 a4 a5))
theorem sk_ywork {post : Int32 → SY → Prop} {e lc' : Nat} {p0 v : Int32} {la' : sk_F} (e0 : p0 = nI e) (hM : M ≤ 50) (HE : ∀ e, e < M → sk_node ek ex ey ez ew px py pz od e) (he : e < M) (hv : sk_EvY M ek ex ey ez ew vs es e lc la v lc' la')
    (H : ∀ (de' tq' : Int32) (wk' aw' fd' : sk_F), post v (nM, nN, nI lc', nI pc, de', tq', hg, ek, ex, ey, ez, ew, hid, wld, sk, sx, sy, sz, sw, dp, oS, hS, lab, vs, es, la', pa, wk', aw', fd', dg, st, rl, ch)) : wpY_work post (nM, nN, nI lc, nI pc, de, tq, hg, ek, ex, ey, ez, ew, hid, wld, sk, sx, sy, sz, sw, dp, oS, hS, lab, vs, es, la, pa, wk, aw, fd, dg, st, rl, ch) p0 := by
  obtain ⟨⟨hwE, hw30, _⟩, _⟩ := HE e he
  have hw1 := sk_w1 (HE e he)
  unfold wpY_work
  dsimp only
  refine sk_ybegin (d := 0) (tp := 0) e0 (by omega) ⟨1 + (2 * sk_w ew e - 1), ?_⟩
  refine hv (fun n k d tp lc la wk aw fd => wY_work_17 post n (nI k) nM nN (nI lc) (nI pc) (nI d) (nI tp) hg ek ex ey ez ew hid wld sk sx sy sz sw dp oS hS lab vs es la pa wk aw fd dg st rl ch) (sk_yry hM HE) 1 0 0 0 (upd wk 0 (nI e)) (upd aw 0 0) fd pk_us pk_us (by omega) (by omega) (by omega) ?_
  intro wk2 aw2 fd2 _ _ h0
  refine br_f (nI_ge (b := 120) (by omega) (by decide)) (br_t (by decide) ?_)
  rw [h0]
  exact H _ _ _ _ _
end
