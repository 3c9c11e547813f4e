/-! 06: X: one leak; one node; an expression worked out -/
theorem sk_put_lt {K c : Nat} {a : sk_F} {v : Int32} (h : c < K) : sk_put K c a v = upd a c v := if_pos h
theorem sk_put_ge {K c : Nat} {a : sk_F} {v : Int32} (h : K ≤ c) : sk_put K c a v = a := if_neg (by omega)
theorem sk_30 (E i : Nat) : nI E * 30 + nI i = nI (30 * E + i) := by
  rw [show (30 : Int32) = nI 30 from rfl, pk_mul, nI_add, Nat.mul_comm]
section
variable {nM nN pl : Int32} {M N lc pc b : Nat} {vs es lab ek ex ey ez px py pz ew od sec rdo sk sx sy sz sw dp so sh la pa vl ps pt pr : sk_F}
theorem sk_xadd {post : SX → Prop} {v : Int32} (h : lc < 2 ^ 30) (H : post (nM, nN, nI (lc + 1), nI pc, pl, vs, es, lab, ek, ex, px, py, pz, ew, od, sec, rdo, sk, sx, sy, sz, sw, dp, so, sh, sk_put 200 lc la v, pa, vl, ps, pt, pr)) : wpX_addLeak post (nM, nN, nI lc, nI pc, pl, vs, es, lab, ek, ex, px, py, pz, ew, od, sec, rdo, sk, sx, sy, sz, sw, dp, so, sh, la, pa, vl, ps, pt, pr) v := by
  unfold wpX_addLeak
  dsimp only
  refine pk_le 200 lc (fun h2 => ?_) (fun h2 => ?_)
  · rw [sk_put_ge h2] at H
    exact nm_r (nI_1 lc) H
  · rw [sk_put_lt h2] at H
    exact ⟨vp_in_nI h2 (by omega), nm_r (by rw [nI_clamp (by omega)]) (nm_r (nI_1 lc) H)⟩
theorem sk_xcomb {post : Int32 → Prop} {k x y : Int32} (h3 : ¬ k < 3) (h12 : ¬ 12 < k) (H : post (sk_cb k x y)) : wpX_combine post k x y := by
  unfold wpX_combine wX_combine_105
  unfold sk_cb at H
  refine br_f h3 (br_f h12 ?_)
  refine br_c (fun h => by rw [if_pos h] at H; exact H) (fun h => ?_)
  rw [if_neg h] at H
  refine br_c (fun h => by rw [if_pos h] at H; exact H) (fun h => ?_)
  rw [if_neg h] at H
  refine br_c (fun h => by rw [if_pos h] at H; exact H) (fun h => ?_)
  rw [if_neg h] at H
  refine br_c (fun h => by rw [if_pos h] at H; exact H) (fun h => ?_)
  rw [if_neg h] at H
  refine br_c (fun h => by rw [if_pos h] at H; exact H) (fun h => ?_)
  rw [if_neg h] at H
  refine br_c (fun h => by rw [if_pos h] at H; exact H) (fun h => ?_)
  rw [if_neg h] at H
  refine br_c (fun h => by rw [if_pos h] at H; exact H) (fun h => ?_)
  rw [if_neg h] at H
  refine br_c (fun h => by rw [if_pos h] at H; exact H) (fun h => ?_)
  rw [if_neg h] at H
  refine br_c (fun h => ?_) (fun h => ?_)
  · rw [if_pos h] at H
    refine br_c (fun h => by rw [if_pos h] at H; exact H) (fun h => by rw [if_neg h] at H; exact H)
  · rw [if_neg h] at H
    refine br_c (fun _ => ?_) (fun _ => trivial)
    refine br_c (fun h => by rw [if_pos h] at H; exact H) (fun h => by rw [if_neg h] at H; exact H)
theorem sk_xpar {post : Int32 → Prop} {e : Nat} (he : e < 50) (hn : sk_node ek ex ey ez ew px py pz od e) (H : post (nI (sk_ar ek e))) : wpX_partsOf post (nM, nN, nI lc, nI pc, pl, vs, es, lab, ek, ex, px, py, pz, ew, od, sec, rdo, sk, sx, sy, sz, sw, dp, so, sh, la, pa, vl, ps, pt, pr) (nI e) := by
  have i50 : vp_in (nI e) 50 := vp_in_nI he (by omega)
  have m1 : ∀ p, p < e → ¬ nI p = -1 := fun p hp => sk_m1 (by omega)
  unfold wpX_partsOf wX_partsOf_15 wX_partsOf_30
  dsimp only
  rw [nI_clamp (show e < 2 ^ 31 by omega)]
  rcases hn.2 with ⟨k, _, a, b, c⟩ | ⟨k, _, a, b, c, _⟩ | ⟨k, a, c, _, p, _, hp, _, _, b, _⟩ | ⟨k, b, c, p, hp, _, a, _⟩ | ⟨k, p, q, r, hp, hq, hr, _, _, _, a, b, c, _⟩ | ⟨k, c, p, q, hp, hq, _, _, a, b, _⟩
  · rw [sk_ar_0 k] at H
    rw [a, b, c]
    exact ⟨i50, br_t rfl ⟨i50, br_t rfl ⟨i50, br_t rfl H⟩⟩⟩
  · rw [sk_ar_1 k] at H
    rw [a, b, c]
    exact ⟨i50, br_t rfl ⟨i50, br_t rfl ⟨i50, br_t rfl H⟩⟩⟩
  · rw [sk_ar_2 k] at H
    rw [a, b, c]
    exact ⟨i50, br_t rfl ⟨i50, br_f (m1 p hp) ⟨i50, br_t rfl H⟩⟩⟩
  · rw [sk_ar_13 k] at H
    rw [a, b, c]
    exact ⟨i50, br_f (m1 p hp) ⟨i50, br_t rfl ⟨i50, br_t rfl H⟩⟩⟩
  · rw [sk_ar_14 k] at H
    rw [a, b, c]
    exact ⟨i50, br_f (m1 p hp) ⟨i50, br_f (m1 q hq) ⟨i50, br_f (m1 r hr) H⟩⟩⟩
  · rw [sk_ar_b k] at H
    rw [a, b, c]
    exact ⟨i50, br_f (m1 p hp) ⟨i50, br_f (m1 q hq) ⟨i50, br_t rfl H⟩⟩⟩
theorem sk_xval {post : Int32 → SX → Prop} {e h : Nat} (he : e < 50) (hn : sk_node ek ex ey ez ew px py pz od e) (hh : h < 30) (hlc : lc < 2 ^ 30)
    (H : post (sk_nv ek ex vs es e (vl h) (vl (h + 1)) (vl (h + 2))) (nM, nN, nI (sk_lc ek e lc), nI pc, pl, vs, es, lab, ek, ex, px, py, pz, ew, od, sec, rdo, sk, sx, sy, sz, sw, dp, so, sh, sk_la ek ex e (vl h) lc la, pa, vl, ps, pt, pr)) : wpX_valueOf post (nM, nN, nI lc, nI pc, pl, vs, es, lab, ek, ex, px, py, pz, ew, od, sec, rdo, sk, sx, sy, sz, sw, dp, so, sh, la, pa, vl, ps, pt, pr) (nI e) (nI h) := by
  have i50 : vp_in (nI e) 50 := vp_in_nI he (by omega)
  have i0 : vp_in (nI h) 32 := vp_in_nI (by omega) (by omega)
  have i1 : vp_in (nI h + 1) 32 := by rw [nI_1]; exact vp_in_nI (by omega) (by omega)
  have e2 : nI h + 2 = nI (h + 2) := by rw [show (2 : Int32) = nI 2 from rfl, nI_add]
  have i2 : vp_in (nI h + 2) 32 := by rw [e2]; exact vp_in_nI (by omega) (by omega)
  have ce := nI_clamp (show e < 2 ^ 31 by omega)
  have ch := nI_clamp (show h < 2 ^ 31 by omega)
  have c1 : (nI h + 1).toNatClampNeg = h + 1 := by rw [nI_1]; exact nI_clamp (by omega)
  have c2 : (nI h + 2).toNatClampNeg = h + 2 := by rw [e2]; exact nI_clamp (by omega)
  unfold wpX_valueOf wX_valueOf_168 wpX_placeOf
  dsimp only
  rw [ce, ch, c1, c2]
  rcases hn.2 with ⟨k, _⟩ | ⟨k, _, _, _, _, v, hv, hx⟩ | ⟨k, _, _, a, p, ha, _, hx, _⟩ | ⟨k, _⟩ | ⟨k, _⟩ | ⟨k, _⟩
  · rw [sk_nv_0 k, sk_lc_n (sk_n2_0 k), sk_la_n (sk_n2_0 k)] at H
    exact ⟨i50, nm_r k (br_f (by decide) (br_f (by decide) (br_t rfl ⟨i50, H⟩)))⟩
  · rw [sk_nv_1 k, sk_lc_n (sk_n2_1 k), sk_la_n (sk_n2_1 k)] at H
    exact ⟨i50, nm_r k (br_f (by decide) (br_f (by decide) (br_f (by decide) (br_t rfl ⟨i50, by rw [hx]; exact vp_in_nI hv (by omega), H⟩))))⟩
  · rw [sk_nv_2 k, sk_lc_2 k, sk_la_2 k] at H
    obtain ⟨j, hj, ej, _⟩ := sk_pl ha (vl h)
    have ij : vp_in (ex e * 8 + (vl h &&& 7)) 16 := by rw [hx, show nI a * 8 + (vl h &&& 7) = nI j from ej]; exact vp_in_nI hj (by omega)
    exact ⟨i50, nm_r k (br_f (by decide) (br_f (by decide) (br_f (by decide) (br_f (by decide) (br_t rfl ⟨i50, i0, sk_xadd hlc ⟨ij, H⟩⟩)))))⟩
  · rw [sk_nv_13 k, sk_lc_n (sk_n2_13 k), sk_la_n (sk_n2_13 k)] at H
    exact ⟨i50, nm_r k (br_f (by decide) (br_f (by decide) (br_f (by decide) (br_f (by decide) (br_f (by decide) (br_f (by decide) (br_f (by decide) (br_f (by decide) (br_f (by decide) (br_f (by decide) (br_f (by decide) (br_f (by decide) (br_f (by decide) (br_f (by decide) (br_f (by decide) (br_t rfl ⟨i0, H⟩))))))))))))))))⟩
  · rw [sk_nv_14 k, sk_lc_n (sk_n2_14 k), sk_la_n (sk_n2_14 k)] at H
    exact ⟨i50, nm_r k (br_f (by decide) (br_f (by decide) (br_f (by decide) (br_f (by decide) (br_f (by decide) (br_f (by decide) (br_f (by decide) (br_f (by decide) (br_f (by decide) (br_f (by decide) (br_f (by decide) (br_f (by decide) (br_f (by decide) (br_f (by decide) (br_f (by decide) (br_f (by decide) (br_t rfl ⟨i0, br_c (fun z => ⟨i2, by rw [if_pos z] at H; exact H⟩) (fun z => ⟨i1, by rw [if_neg z] at H; exact H⟩)⟩)))))))))))))))))⟩
  · rw [sk_nv_b k, sk_lc_n (sk_n2_b k), sk_la_n (sk_n2_b k)] at H
    obtain ⟨n0, n1, n2, n13, n14⟩ := sk_bin_ne k
    obtain ⟨q, q1, q2, q3⟩ := k
    have g0 : ¬ ek e < 0 := by rw [q3]; exact nI_pos (by omega)
    have g3 : ¬ ek e < 3 := by rw [q3]; exact nI_nlt (b := 3) q1 (by omega)
    have g12 : ¬ 12 < ek e := by rw [q3]; exact nI_nlt (a := 12) q2 (by decide)
    have g14 : ¬ 14 < ek e := by rw [q3]; exact nI_nlt (a := 14) (by omega) (by decide)
    have V := And.intro i50 (And.intro i0 (And.intro i1 (sk_xcomb (post := fun r => post r (nM, nN, nI lc, nI pc, pl, vs, es, lab, ek, ex, px, py, pz, ew, od, sec, rdo, sk, sx, sy, sz, sw, dp, so, sh, la, pa, vl, ps, pt, pr)) g3 g12 H)))
    exact ⟨i50, nm_e (br_f g0 (br_f g14 (br_f n0 (br_f n1 (br_f n2 (br_c (fun _ => V) (fun _ => br_c (fun _ => V) (fun _ => br_c (fun _ => V) (fun _ => br_c (fun _ => V) (fun _ => br_c (fun _ => V) (fun _ => br_c (fun _ => V) (fun _ => br_c (fun _ => V) (fun _ => br_c (fun _ => V) (fun _ => br_c (fun _ => V) (fun _ => br_c (fun _ => V) (fun _ => br_f n13 (br_f n14 trivial)))))))))))))))))⟩
/-- the loop of workOut keeps X's rule -/
theorem sk_xrx {post : Int32 → SX → Prop} {E : Nat} (hM : M ≤ 50) (HE : ∀ e, e < M → sk_node ek ex ey ez ew px py pz od e) (hE : E < M) :
    sk_RX M ek ex ew od vs es E (fun n i h lc la vl => wX_workOut_4 post (nI E) n (nI h) (nI i) nM nN (nI lc) (nI pc) pl vs es lab ek ex px py pz ew od sec rdo sk sx sy sz sw dp so sh la pa vl ps pt pr) := by
  intro n i h lc la vl e he hod hi hh hh3 hlc H
  obtain ⟨⟨hwE, hw30, _⟩, _⟩ := HE E hE
  have hi2 : nI E * 30 + nI i = nI (30 * E + i) := sk_30 E i
  refine ⟨vp_in_nI (by omega) (by omega), br_f ?_ ⟨?_, nm_r (e' := nI e) ?_ ?_⟩⟩
  · rw [nI_clamp (by omega), hwE]
    exact nI_ge hi (by omega)
  · rw [hi2]
    exact vp_in_nI (by omega) (by omega)
  · rw [hi2, nI_clamp (by omega)]
    exact hod
  · refine sk_xpar (by omega) (HE e he) (nm_r sk_sub ?_)
    refine sk_xval (by omega) (HE e he) hh3 hlc ?_
    exact ⟨vp_in_nI (by omega) (by omega), nm_r (by rw [nI_clamp (by omega)]) (nm_r (nI_1 h) (nm_r (nI_1 i) H))⟩
theorem sk_xwork {post : Int32 → SX → Prop} {e lc' : Nat} {v : Int32} {la' : sk_F} (hM : M ≤ 50) (HE : ∀ e, e < M → sk_node ek ex ey ez ew px py pz od e) (he : e < M) (hv : sk_EvX M ek ex ew od vs es e lc la v lc' la')
    (H : ∀ vl' : sk_F, post v (nM, nN, nI lc', nI pc, pl, vs, es, lab, ek, ex, px, py, pz, ew, od, sec, rdo, sk, sx, sy, sz, sw, dp, so, sh, la', pa, vl', ps, pt, pr)) : wpX_workOut post (nM, nN, nI lc, nI pc, pl, vs, es, lab, ek, ex, px, py, pz, ew, od, sec, rdo, sk, sx, sy, sz, sw, dp, so, sh, la, pa, vl, ps, pt, pr) (nI e) := by
  obtain ⟨⟨hwE, hw30, _⟩, _⟩ := HE e he
  refine ⟨1 + sk_w ew e, ?_⟩
  refine hv e _ (sk_xrx hM HE he) 1 0 0 vl (fun j _ => rfl) (by omega) (by omega) ?_
  intro vl' _ h0
  refine ⟨vp_in_nI (by omega) (by omega), br_t ?_ ?_⟩
  · rw [nI_clamp (by omega), hwE, Nat.zero_add]
    exact nI_le (Nat.le_refl _) (by omega)
  · rw [h0]
    exact H vl'
end
