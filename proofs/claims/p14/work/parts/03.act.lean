section
variable {np nd es : Nat} {ls et : Int32} {co ca pc ra rb sp mk dp fc fa fb fm sl st lf su pg pn ss ql qs qr hd fl ek ep ev er : Nat → Int32}
/-! X: acting on one signal -/
theorem sx_push {post : St2 → Prop} {p d : Nat} {r c a : Int32} (hp : p < 4) (hd4 : d < 4) (e : dp p = nI d) (hca : (0 < sl p ∧ r = 0 ∧ c = pc p + 1 ∧ a = -4) ∨ (¬ (0 < sl p ∧ r = 0) ∧ c = pc p ∧ a = ra p)) (h : post (nI np, nI nd, ls, et, nI es, co, ca, pc, ra, rb, upd sp p (sp p - 4), mk, upd dp p (nI (d + 1)), upd fc (p * 4 + d) c, upd fa (p * 4 + d) a, upd fb (p * 4 + d) (rb p), upd fm (p * 4 + d) (mk p), upd sl p 0, st, lf, su, pg, ss, ql, qs, qr, hd, fl, ek, ep, ev, er)) : wpX_pushFrame post (nI np, nI nd, ls, et, nI es, co, ca, pc, ra, rb, sp, mk, dp, fc, fa, fb, fm, sl, st, lf, su, pg, ss, ql, qs, qr, hd, fl, ek, ep, ev, er) (nI p) r := by
  have e1 : vp_in (nI p) 4 := vp_in_nI hp (by decide)
  have e2 : (nI p).toNatClampNeg = p := nI_clamp (by omega)
  have e3 : vp_in (nI (p * 4 + d)) 16 := vp_in_nI (by omega) (by decide)
  have e4 : (nI (p * 4 + d)).toNatClampNeg = p * 4 + d := nI_clamp (by omega)
  have n1 : ¬ (1 : Int32) = 0 := by decide
  rcases hca with ⟨z, rfl, rfl, rfl⟩ | ⟨z, rfl, rfl⟩
  · have z' : ¬ sl p ≤ 0 := Int32.not_le.mpr z
    simp only [wpX_pushFrame, wX_pushFrame_18, wX_pushFrame_65, wX_pushFrame_87, e1, e2, e, z', n1, sk_ix4, e3, e4, nI_1, true_implies, false_implies, not_true_eq_false, not_false_eq_true, and_true, true_and, forall_eq, implies_true]
    exact h
  · by_cases y : sl p ≤ 0
    · simp only [wpX_pushFrame, wX_pushFrame_17, wX_pushFrame_18, wX_pushFrame_65, wX_pushFrame_87, e1, e2, e, y, sk_ix4, e3, e4, nI_1, true_implies, false_implies, not_true_eq_false, not_false_eq_true, and_true, true_and, forall_eq, implies_true]
      exact h
    · have y2 : ¬ r = 0 := fun w => z ⟨Int32.not_le.mp y, w⟩
      simp only [wpX_pushFrame, wX_pushFrame_17, wX_pushFrame_18, wX_pushFrame_65, wX_pushFrame_87, e1, e2, e, y, y2, sk_ix4, e3, e4, nI_1, true_implies, false_implies, not_true_eq_false, not_false_eq_true, and_true, true_and, forall_eq, implies_true]
      exact h
theorem sx_e69 {post : St2 → Prop} {p j : Nat} {x2 s x5 f : Int32} (hp : p < 4) (hj : j < 128) (hs : es ≤ 128) (h : post (nI np, nI nd, ls, et + 1, nI (sk_lgN es), co, ca, upd pc p x5, upd ra p x2, upd rb p s, sp, mk, dp, fc, fa, fb, fm, sl, st, lf, su, pg, ss, ql, qs, qr, sk_hdH hd j f, sk_flH fl j f, sk_lgA ek es 1, sk_lgA ep es (nI p), sk_lgA ev es x2, sk_lgA er es s)) : wX_enterHandler_69 post (nI p) x2 s (nI j) x5 f (nI np) (nI nd) ls et (nI es) co ca pc ra rb sp mk dp fc fa fb fm sl st lf su pg ss ql qs qr hd fl ek ep ev er := by
  have e1 : vp_in (nI p) 4 := vp_in_nI hp (by decide)
  have e2 : (nI p).toNatClampNeg = p := nI_clamp (by omega)
  have e3 : vp_in (nI j) 128 := vp_in_nI hj (by decide)
  have e4 : (nI j).toNatClampNeg = j := nI_clamp (by omega)
  by_cases f4 : f &&& 4 = 0
  · simp only [sk_hdH, sk_flH, if_pos f4] at h
    simp only [wX_enterHandler_69, e1, e2, f4, true_implies, false_implies, not_true_eq_false, not_false_eq_true, and_true, true_and, forall_eq, implies_true]
    unfold wX_enterHandler_114
    refine sx_log hs ?_
    exact h
  · simp only [sk_hdH, sk_flH, if_neg f4] at h
    simp only [wX_enterHandler_69, e1, e2, e3, e4, f4, true_implies, false_implies, not_true_eq_false, not_false_eq_true, and_true, true_and, forall_eq, implies_true]
    unfold wX_enterHandler_114
    refine sx_log hs ?_
    exact h
theorem sx_e40 {post : St2 → Prop} {p g d : Nat} {s x5 f r : Int32} (hp : p < 4) (hg : g < 32) (hd4 : d < 4) (e : dp p = nI d) (hs : es ≤ 128) (hr : r = 0 ↔ f &&& 1 = 0)
    (h : post (nI np, nI nd, ls, et + 1, nI (sk_lgN es), co, ca, upd pc p x5, upd ra p (nI g), upd rb p s, upd sp p (sp p - 4), sk_mkH mk p g f, upd dp p (nI (d + 1)), upd fc (p * 4 + d) (sk_itC sl pc p f), upd fa (p * 4 + d) (sk_itA sl ra p f), upd fb (p * 4 + d) (rb p), upd fm (p * 4 + d) (mk p), upd sl p 0, st, lf, su, pg, ss, ql, qs, qr, sk_hdH hd (p * 32 + g) f, sk_flH fl (p * 32 + g) f, sk_lgA ek es 1, sk_lgA ep es (nI p), sk_lgA ev es (nI g), sk_lgA er es s)) : wX_enterHandler_40 post (nI p) (nI g) s (nI (p * 32 + g)) x5 f r (nI p) (nI np) (nI nd) ls et (nI es) co ca pc ra rb sp mk dp fc fa fb fm sl st lf su pg ss ql qs qr hd fl ek ep ev er := by
  have e1 : vp_in (nI p) 4 := vp_in_nI hp (by decide)
  have e2 : (nI p).toNatClampNeg = p := nI_clamp (by omega)
  have hca : (0 < sl p ∧ r = 0 ∧ sk_itC sl pc p f = pc p + 1 ∧ sk_itA sl ra p f = -4) ∨ (¬ (0 < sl p ∧ r = 0) ∧ sk_itC sl pc p f = pc p ∧ sk_itA sl ra p f = ra p) := by
    by_cases z : 0 < sl p ∧ f &&& 1 = 0
    · exact Or.inl ⟨z.1, hr.mpr z.2, if_pos z, if_pos z⟩
    · exact Or.inr ⟨fun y => z ⟨y.1, hr.mp y.2⟩, if_neg z, if_neg z⟩
  unfold wX_enterHandler_40
  refine sx_push hp hd4 e hca ?_
  by_cases f2 : f &&& 2 = 0
  · simp only [sk_mkH, if_pos f2] at h
    refine br_t f2 ⟨e1, e1, nm_r (by rw [e2]) ?_⟩
    exact sx_e69 hp (by omega) hs h
  · simp only [sk_mkH, if_neg f2] at h
    refine br_f f2 ?_
    exact sx_e69 hp (by omega) hs h
theorem sx_enter {post : St2 → Prop} {p g d : Nat} {s : Int32} (hp : p < 4) (hg : g < 32) (hd4 : d < 4) (e : dp p = nI d) (hs : es ≤ 128) (h : post (nI np, nI nd, ls, et + 1, nI (sk_lgN es), co, ca, upd pc p (hd (p * 32 + g)), upd ra p (nI g), upd rb p s, upd sp p (sp p - 4), sk_mkH mk p g (fl (p * 32 + g)), upd dp p (nI (d + 1)), upd fc (p * 4 + d) (sk_itC sl pc p (fl (p * 32 + g))), upd fa (p * 4 + d) (sk_itA sl ra p (fl (p * 32 + g))), upd fb (p * 4 + d) (rb p), upd fm (p * 4 + d) (mk p), upd sl p 0, st, lf, su, pg, ss, ql, qs, qr, sk_hdH hd (p * 32 + g) (fl (p * 32 + g)), sk_flH fl (p * 32 + g) (fl (p * 32 + g)), sk_lgA ek es 1, sk_lgA ep es (nI p), sk_lgA ev es (nI g), sk_lgA er es s)) : wpX_enterHandler post (nI np, nI nd, ls, et, nI es, co, ca, pc, ra, rb, sp, mk, dp, fc, fa, fb, fm, sl, st, lf, su, pg, ss, ql, qs, qr, hd, fl, ek, ep, ev, er) (nI p) (nI g) s := by
  have e3 : vp_in (nI (p * 32 + g)) 128 := vp_in_nI (by omega) (by decide)
  have e4 : (nI (p * 32 + g)).toNatClampNeg = p * 32 + g := nI_clamp (by omega)
  simp only [wpX_enterHandler, sk_ix32, e3, e4, true_implies, false_implies, not_true_eq_false, not_false_eq_true, and_true, true_and, forall_eq, implies_true]
  refine br_c (fun f1 => ?_) (fun f1 => ?_)
  · exact sx_e40 hp hg hd4 e hs ⟨fun _ => f1, fun _ => rfl⟩ h
  · exact sx_e40 hp hg hd4 e hs ⟨fun z => absurd z (by decide), fun z => absurd z f1⟩ h
theorem sx_71 {post : St2 → Prop} {p g s : Int32} (hs : es ≤ 128) (h : post (nI np, nI nd, ls, et + 1, nI (sk_lgN es), co, ca, pc, ra, rb, sp, mk, dp, fc, fa, fb, fm, sl, st, lf, su, pg, ss, ql, qs, qr, hd, fl, sk_lgA ek es 4, sk_lgA ep es p, sk_lgA ev es g, sk_lgA er es s)) : wX_act_71 post p g s (nI np) (nI nd) ls et (nI es) co ca pc ra rb sp mk dp fc fa fb fm sl st lf su pg ss ql qs qr hd fl ek ep ev er := by
  unfold wX_act_71
  refine sx_log hs ?_
  exact h
theorem sx_94 {post : St2 → Prop} {p : Nat} {g s : Int32} (hp : p < 4) (hs : es ≤ 128) (h : post (nI np, nI nd, ls, et + 1, nI (sk_lgN es), co, ca, pc, ra, rb, sp, mk, dp, fc, fa, fb, fm, sl, upd st p 1, lf, su, pg, ss, ql, qs, qr, hd, fl, sk_lgA ek es 3, sk_lgA ep es (nI p), sk_lgA ev es g, sk_lgA er es s)) : wX_act_94 post (nI p) g s (nI np) (nI nd) ls et (nI es) co ca pc ra rb sp mk dp fc fa fb fm sl st lf su pg ss ql qs qr hd fl ek ep ev er := by
  have e1 : vp_in (nI p) 4 := vp_in_nI hp (by decide)
  have e2 : (nI p).toNatClampNeg = p := nI_clamp (by omega)
  unfold wX_act_94
  refine ⟨e1, nm_r (by rw [e2]) ?_⟩
  refine sx_log hs ?_
  exact h
theorem sx_act_m2 {post : St2 → Prop} {p g : Nat} {s : Int32} (hp : p < 4) (hg : g < 32) (he : hd (p * 32 + g) = -2) (hs : es ≤ 128) (h : post (nI np, nI nd, ls, et + 1, nI (sk_lgN es), co, ca, pc, ra, rb, sp, mk, dp, fc, fa, fb, fm, sl, st, lf, su, pg, ss, ql, qs, qr, hd, fl, sk_lgA ek es 4, sk_lgA ep es (nI p), sk_lgA ev es (nI g), sk_lgA er es s)) : wpX_act post (nI np, nI nd, ls, et, nI es, co, ca, pc, ra, rb, sp, mk, dp, fc, fa, fb, fm, sl, st, lf, su, pg, ss, ql, qs, qr, hd, fl, ek, ep, ev, er) (nI p) (nI g) s := by
  have e3 : vp_in (nI p * 32 + nI g) 128 := by rw [sk_ix32]; exact vp_in_nI (by omega) (by decide)
  have e4 : hd (nI p * 32 + nI g).toNatClampNeg = hd (p * 32 + g) := by rw [sk_ix32, nI_clamp (by omega)]
  unfold wpX_act
  refine ⟨e3, nm_r (e4.trans he) (br_t (by decide) (br_t rfl ?_))⟩
  exact sx_71 hs h
theorem sx_act_13 {post : St2 → Prop} {p : Nat} {s : Int32} (hp : p < 4) (he : hd (p * 32 + 13) = -1) (hs : es ≤ 128) (h : post (nI np, nI nd, ls, et + 1, nI (sk_lgN es), co, ca, pc, ra, rb, sp, mk, dp, fc, fa, fb, fm, sl, st, lf, su, pg, ss, ql, qs, qr, hd, fl, sk_lgA ek es 4, sk_lgA ep es (nI p), sk_lgA ev es (nI 13), sk_lgA er es s)) : wpX_act post (nI np, nI nd, ls, et, nI es, co, ca, pc, ra, rb, sp, mk, dp, fc, fa, fb, fm, sl, st, lf, su, pg, ss, ql, qs, qr, hd, fl, ek, ep, ev, er) (nI p) (nI 13) s := by
  have e3 : vp_in (nI p * 32 + nI 13) 128 := by rw [sk_ix32]; exact vp_in_nI (by omega) (by decide)
  have e4 : hd (nI p * 32 + nI 13).toNatClampNeg = hd (p * 32 + 13) := by rw [sk_ix32, nI_clamp (by omega)]
  unfold wpX_act
  refine ⟨e3, nm_r (e4.trans he) (br_t (by decide) (br_f (by decide) (br_t rfl ?_)))⟩
  exact sx_71 hs h
theorem sx_act_14 {post : St2 → Prop} {p : Nat} {s : Int32} (hp : p < 4) (he : hd (p * 32 + 14) = -1) (hs : es ≤ 128) (h : post (nI np, nI nd, ls, et + 1, nI (sk_lgN es), co, ca, pc, ra, rb, sp, mk, dp, fc, fa, fb, fm, sl, st, lf, su, pg, ss, ql, qs, qr, hd, fl, sk_lgA ek es 4, sk_lgA ep es (nI p), sk_lgA ev es (nI 14), sk_lgA er es s)) : wpX_act post (nI np, nI nd, ls, et, nI es, co, ca, pc, ra, rb, sp, mk, dp, fc, fa, fb, fm, sl, st, lf, su, pg, ss, ql, qs, qr, hd, fl, ek, ep, ev, er) (nI p) (nI 14) s := by
  have e3 : vp_in (nI p * 32 + nI 14) 128 := by rw [sk_ix32]; exact vp_in_nI (by omega) (by decide)
  have e4 : hd (nI p * 32 + nI 14).toNatClampNeg = hd (p * 32 + 14) := by rw [sk_ix32, nI_clamp (by omega)]
  unfold wpX_act
  refine ⟨e3, nm_r (e4.trans he) (br_t (by decide) (br_f (by decide) (br_f (by decide) (br_t rfl ?_))))⟩
  exact sx_71 hs h
theorem sx_act_12 {post : St2 → Prop} {p : Nat} {s : Int32} (hp : p < 4) (he : hd (p * 32 + 12) = -1) (hs : es ≤ 128) (h : post (nI np, nI nd, ls, et + 1, nI (sk_lgN es), co, ca, pc, ra, rb, sp, mk, dp, fc, fa, fb, fm, sl, upd st p 1, lf, su, pg, ss, ql, qs, qr, hd, fl, sk_lgA ek es 3, sk_lgA ep es (nI p), sk_lgA ev es (nI 12), sk_lgA er es s)) : wpX_act post (nI np, nI nd, ls, et, nI es, co, ca, pc, ra, rb, sp, mk, dp, fc, fa, fb, fm, sl, st, lf, su, pg, ss, ql, qs, qr, hd, fl, ek, ep, ev, er) (nI p) (nI 12) s := by
  have e3 : vp_in (nI p * 32 + nI 12) 128 := by rw [sk_ix32]; exact vp_in_nI (by omega) (by decide)
  have e4 : hd (nI p * 32 + nI 12).toNatClampNeg = hd (p * 32 + 12) := by rw [sk_ix32, nI_clamp (by omega)]
  unfold wpX_act
  refine ⟨e3, nm_r (e4.trans he) (br_t (by decide) (br_f (by decide) (br_f (by decide) (br_f (by decide) (br_t rfl ?_)))))⟩
  exact sx_94 hp hs h
theorem sx_act_15 {post : St2 → Prop} {p : Nat} {s : Int32} (hp : p < 4) (he : hd (p * 32 + 15) = -1) (hs : es ≤ 128) (h : post (nI np, nI nd, ls, et + 1, nI (sk_lgN es), co, ca, pc, ra, rb, sp, mk, dp, fc, fa, fb, fm, sl, upd st p 1, lf, su, pg, ss, ql, qs, qr, hd, fl, sk_lgA ek es 3, sk_lgA ep es (nI p), sk_lgA ev es (nI 15), sk_lgA er es s)) : wpX_act post (nI np, nI nd, ls, et, nI es, co, ca, pc, ra, rb, sp, mk, dp, fc, fa, fb, fm, sl, st, lf, su, pg, ss, ql, qs, qr, hd, fl, ek, ep, ev, er) (nI p) (nI 15) s := by
  have e3 : vp_in (nI p * 32 + nI 15) 128 := by rw [sk_ix32]; exact vp_in_nI (by omega) (by decide)
  have e4 : hd (nI p * 32 + nI 15).toNatClampNeg = hd (p * 32 + 15) := by rw [sk_ix32, nI_clamp (by omega)]
  unfold wpX_act
  refine ⟨e3, nm_r (e4.trans he) (br_t (by decide) (br_f (by decide) (br_f (by decide) (br_f (by decide) (br_f (by decide) (br_t rfl ?_))))))⟩
  exact sx_94 hp hs h
theorem sx_act_die {post : St2 → Prop} {p g : Nat} {s : Int32} (hp : p < 4) (hg : g < 32) (h12 : g ≠ 12) (h13 : g ≠ 13) (h14 : g ≠ 14) (h15 : g ≠ 15) (he : hd (p * 32 + g) = -1) (hs : es ≤ 128) (h : post (nI np, nI nd, ls, et + 1, nI (sk_lgN es), co, ca, pc, ra, rb, sp, mk, dp, fc, fa, fb, fm, upd sl p 0, upd st p 0, upd lf p 4, upd su p (nI g), upd pg p 0, sk_clr ss (p * 16) 16, upd ql p 0, qs, qr, hd, fl, sk_lgA ek es 2, sk_lgA ep es (nI p), sk_lgA ev es (nI g), sk_lgA er es s)) : wpX_act post (nI np, nI nd, ls, et, nI es, co, ca, pc, ra, rb, sp, mk, dp, fc, fa, fb, fm, sl, st, lf, su, pg, ss, ql, qs, qr, hd, fl, ek, ep, ev, er) (nI p) (nI g) s := by
  have a12 : ¬ nI g = 12 := fun z => absurd ((nI_eq (b := 12) (by omega) (by decide)).mp z) (by omega)
  have a13 : ¬ nI g = 13 := fun z => absurd ((nI_eq (b := 13) (by omega) (by decide)).mp z) (by omega)
  have a14 : ¬ nI g = 14 := fun z => absurd ((nI_eq (b := 14) (by omega) (by decide)).mp z) (by omega)
  have a15 : ¬ nI g = 15 := fun z => absurd ((nI_eq (b := 15) (by omega) (by decide)).mp z) (by omega)
  have e3 : vp_in (nI p * 32 + nI g) 128 := by rw [sk_ix32]; exact vp_in_nI (by omega) (by decide)
  have e4 : hd (nI p * 32 + nI g).toNatClampNeg = hd (p * 32 + g) := by rw [sk_ix32, nI_clamp (by omega)]
  unfold wpX_act
  refine ⟨e3, nm_r (e4.trans he) (br_t (by decide) (br_f (by decide) (br_f a13 (br_f a14 (br_f a12 (br_f a15 ?_))))))⟩
  refine sx_term hp hs ?_
  exact h
theorem sx_act_over {post : St2 → Prop} {p g d : Nat} {s : Int32} (hp : p < 4) (hg : g < 32) (he : 0 ≤ hd (p * 32 + g)) (e : dp p = nI d) (hd4 : d ≤ 4) (hnd : nd ≤ d) (hs : es ≤ 128) (h : post (nI np, nI nd, ls, et + 1, nI (sk_lgN es), co, ca, pc, ra, rb, sp, mk, dp, fc, fa, fb, fm, upd sl p 0, upd st p 0, upd lf p 4, upd su p 11, upd pg p 0, sk_clr ss (p * 16) 16, upd ql p 0, qs, qr, hd, fl, sk_lgA ek es 2, sk_lgA ep es (nI p), sk_lgA ev es 11, sk_lgA er es s)) : wpX_act post (nI np, nI nd, ls, et, nI es, co, ca, pc, ra, rb, sp, mk, dp, fc, fa, fb, fm, sl, st, lf, su, pg, ss, ql, qs, qr, hd, fl, ek, ep, ev, er) (nI p) (nI g) s := by
  have e1 : vp_in (nI p) 4 := vp_in_nI hp (by decide)
  have e2 : (nI p).toNatClampNeg = p := nI_clamp (by omega)
  have e3 : vp_in (nI p * 32 + nI g) 128 := by rw [sk_ix32]; exact vp_in_nI (by omega) (by decide)
  have e4 : hd (nI p * 32 + nI g).toNatClampNeg = hd (p * 32 + g) := by rw [sk_ix32, nI_clamp (by omega)]
  unfold wpX_act
  refine ⟨e3, nm_r e4 (br_f (Int32.not_lt.mpr he) ⟨e1, br_t ?_ ?_⟩)⟩
  · rw [e2, e]; exact nI_le hnd (by omega)
  · refine sx_term hp hs ?_
    exact h
theorem sx_act_ent {post : St2 → Prop} {p g d : Nat} {s : Int32} (hp : p < 4) (hg : g < 32) (he : 0 ≤ hd (p * 32 + g)) (e : dp p = nI d) (hnd : nd ≤ 4) (hd4 : d < nd) (hs : es ≤ 128) (h : post (nI np, nI nd, ls, et + 1, nI (sk_lgN es), co, ca, upd pc p (hd (p * 32 + g)), upd ra p (nI g), upd rb p s, upd sp p (sp p - 4), sk_mkH mk p g (fl (p * 32 + g)), upd dp p (nI (d + 1)), upd fc (p * 4 + d) (sk_itC sl pc p (fl (p * 32 + g))), upd fa (p * 4 + d) (sk_itA sl ra p (fl (p * 32 + g))), upd fb (p * 4 + d) (rb p), upd fm (p * 4 + d) (mk p), upd sl p 0, st, lf, su, pg, ss, ql, qs, qr, sk_hdH hd (p * 32 + g) (fl (p * 32 + g)), sk_flH fl (p * 32 + g) (fl (p * 32 + g)), sk_lgA ek es 1, sk_lgA ep es (nI p), sk_lgA ev es (nI g), sk_lgA er es s)) : wpX_act post (nI np, nI nd, ls, et, nI es, co, ca, pc, ra, rb, sp, mk, dp, fc, fa, fb, fm, sl, st, lf, su, pg, ss, ql, qs, qr, hd, fl, ek, ep, ev, er) (nI p) (nI g) s := by
  have e1 : vp_in (nI p) 4 := vp_in_nI hp (by decide)
  have e2 : (nI p).toNatClampNeg = p := nI_clamp (by omega)
  have e3 : vp_in (nI p * 32 + nI g) 128 := by rw [sk_ix32]; exact vp_in_nI (by omega) (by decide)
  have e4 : hd (nI p * 32 + nI g).toNatClampNeg = hd (p * 32 + g) := by rw [sk_ix32, nI_clamp (by omega)]
  unfold wpX_act
  refine ⟨e3, nm_r e4 (br_f (Int32.not_lt.mpr he) ⟨e1, br_f ?_ ?_⟩)⟩
  · rw [e2, e]; exact nI_ge hd4 (by omega)
  · refine sx_enter hp hg (by omega) e hs ?_
    exact h
/-! Y: the same, behind the choice of the signal -/
/-! both: one signal acted on -/
end
theorem sk_sig (x : Int32) : (x < 1 ∨ 31 < x) ∨ ∃ g, 1 ≤ g ∧ g < 32 ∧ x = nI g := by
  rcases pk_ix x (n := 32) (by decide) with h | h | ⟨j, hj, rfl⟩
  · exact Or.inl (Or.inl (Int32.lt_trans h (by decide)))
  · exact Or.inl (Or.inr (Int32.lt_of_lt_of_le (by decide) h))
  · by_cases z : j = 0
    · subst z; exact Or.inl (Or.inl (by decide))
    · exact Or.inr ⟨j, by omega, hj, rfl⟩
theorem sx_sig1 {post : Int32 → Prop} {g : Nat} (h1 : 1 ≤ g) (hg : g < 32) (h : post 1) : wpX_isSignal post () (nI g) :=
  br_f (nI_nlt (b := 1) h1 (by omega)) (br_f (nI_nlt (a := 31) (by omega) (by decide)) h)
theorem sx_sig0 {post : Int32 → Prop} {x : Int32} (hx : x < 1 ∨ 31 < x) (h : post 0) : wpX_isSignal post () x :=
  br_c (fun _ => h) fun z => br_t (hx.resolve_left z) h
section
variable {np nd es : Nat} {ls et : Int32} {co ca pc ra rb sp mk dp fc fa fb fm sl st lf su pg pn ss ql qs qr hd fl ek ep ev er : Nat → Int32}
theorem sx_pid1 {post : Int32 → Prop} {p : Nat} (hp : p < np) (hn : np ≤ 4) (h : post 1) : wpX_isPid post (nI np, nI nd, ls, et, nI es, co, ca, pc, ra, rb, sp, mk, dp, fc, fa, fb, fm, sl, st, lf, su, pg, ss, ql, qs, qr, hd, fl, ek, ep, ev, er) (nI p) := by
  unfold wpX_isPid
  exact br_f (nI_pos (by omega)) (br_f (nI_ge hp (by omega)) h)
theorem sx_pid0 {post : Int32 → Prop} {x : Int32} (hx : x < 0 ∨ nI np ≤ x) (h : post 0) : wpX_isPid post (nI np, nI nd, ls, et, nI es, co, ca, pc, ra, rb, sp, mk, dp, fc, fa, fb, fm, sl, st, lf, su, pg, ss, ql, qs, qr, hd, fl, ek, ep, ev, er) x := by
  unfold wpX_isPid
  exact br_c (fun _ => h) fun z => br_t (hx.resolve_left z) h
theorem sx_al1 {post : Int32 → Prop} {p : Nat} (hp : p < np) (hn : np ≤ 4) (hl : lf p = 0) (h : post 1) : wpX_isAlive post (nI np, nI nd, ls, et, nI es, co, ca, pc, ra, rb, sp, mk, dp, fc, fa, fb, fm, sl, st, lf, su, pg, ss, ql, qs, qr, hd, fl, ek, ep, ev, er) (nI p) := by
  unfold wpX_isAlive
  refine sx_pid1 hp hn ?_
  exact br_f (by decide) ⟨vp_in_nI (by omega) (by decide), br_t (by rw [nI_clamp (by omega)]; exact hl) h⟩
theorem sx_al0 {post : Int32 → Prop} {x : Int32} (hx : x < 0 ∨ nI np ≤ x) (h : post 0) : wpX_isAlive post (nI np, nI nd, ls, et, nI es, co, ca, pc, ra, rb, sp, mk, dp, fc, fa, fb, fm, sl, st, lf, su, pg, ss, ql, qs, qr, hd, fl, ek, ep, ev, er) x := by
  unfold wpX_isAlive
  refine sx_pid0 hx ?_
  exact br_t rfl h
theorem sx_al2 {post : Int32 → Prop} {p : Nat} (hp : p < np) (hn : np ≤ 4) (hl : ¬ lf p = 0) (h : post 0) : wpX_isAlive post (nI np, nI nd, ls, et, nI es, co, ca, pc, ra, rb, sp, mk, dp, fc, fa, fb, fm, sl, st, lf, su, pg, ss, ql, qs, qr, hd, fl, ek, ep, ev, er) (nI p) := by
  unfold wpX_isAlive
  refine sx_pid1 hp hn ?_
  exact br_f (by decide) ⟨vp_in_nI (by omega) (by decide), br_f (by rw [nI_clamp (by omega)]; exact hl) h⟩
theorem sx_opp14 {post : St2 → Prop} {p : Nat} (hp : p < 4) (h : post (nI np, nI nd, ls, et, nI es, co, ca, pc, ra, rb, sp, mk, dp, fc, fa, fb, fm, sl, st, lf, su, upd (upd pg p (pg p &&& (((1 : Int32) <<< (nI 12 &&& 31)) ^^^ (-1)))) p ((upd pg p (pg p &&& (((1 : Int32) <<< (nI 12 &&& 31)) ^^^ (-1)))) p &&& (((1 : Int32) <<< (nI 15 &&& 31)) ^^^ (-1))), upd (upd ss (p * 16 + 12) 0) (p * 16 + 15) 0, ql, qs, qr, hd, fl, ek, ep, ev, er)) : wpX_dropOpposites post (nI np, nI nd, ls, et, nI es, co, ca, pc, ra, rb, sp, mk, dp, fc, fa, fb, fm, sl, st, lf, su, pg, ss, ql, qs, qr, hd, fl, ek, ep, ev, er) (nI p) 14 := by
  unfold wpX_dropOpposites
  refine br_f (by decide) (br_f (by decide) ?_)
  unfold wX_dropOpposites_19
  refine br_t rfl ?_
  refine sx_drop (s := 12) hp (by decide) ?_
  refine sx_drop (s := 15) hp (by decide) ?_
  exact h
end
theorem sk_dec {x : Int32} (h : ¬ x ≤ 0) : 0 ≤ x - 1 := by
  obtain ⟨j, hj, rfl⟩ := nI_of (x := x) (fun z => h (Int32.le_of_lt z))
  obtain ⟨m, rfl⟩ : ∃ m, j = m + 1 := ⟨j - 1, by
    have : j ≠ 0 := fun z => h (by subst z; decide)
    omega⟩
  rw [nI_pred]
  exact nI_pos' (by omega)
theorem sx_cell1 {post : Int32 → Prop} {c : Nat} (hc : c < 32) (h : post 1) : wpX_isCell post () (nI c) :=
  br_f (nI_pos (by omega)) (br_f (nI_ge (b := 32) hc (by decide)) h)
theorem sx_cell0 {post : Int32 → Prop} {x : Int32} (hx : x < 0 ∨ nI 32 ≤ x) (h : post 0) : wpX_isCell post () x :=
  br_c (fun _ => h) fun z => br_t (hx.resolve_left z) h
theorem sx_hd1 {post : Int32 → Prop} {x : Int32} (hx : x = -2 ∨ x = -1 ∨ ∃ j, j < 32 ∧ x = nI j) (h : post 1) : wpX_isHandler post () x := by
  refine br_c (fun _ => h) fun n1 => br_c (fun _ => h) fun n2 => ?_
  obtain ⟨j, hj, rfl⟩ := (hx.resolve_left n2).resolve_left n1
  exact sx_cell1 hj (br_f (by decide) h)
theorem sx_hd0 {post : Int32 → Prop} {x : Int32} (n1 : ¬ x = -1) (n2 : ¬ x = -2) (hx : x < 0 ∨ nI 32 ≤ x) (h : post 0) : wpX_isHandler post () x :=
  br_f n1 (br_f n2 (sx_cell0 hx (br_t rfl h)))
theorem sk_hd (x : Int32) : (x = -2 ∨ x = -1 ∨ ∃ j, j < 32 ∧ x = nI j) ∨ (¬ x = -1 ∧ ¬ x = -2 ∧ (x < 0 ∨ nI 32 ≤ x)) := by
  by_cases h2 : x = -2
  · exact Or.inl (Or.inl h2)
  by_cases h1 : x = -1
  · exact Or.inl (Or.inr (Or.inl h1))
  rcases pk_ix x (n := 32) (by decide) with h | h | h
  · exact Or.inr ⟨h1, h2, Or.inl h⟩
  · exact Or.inr ⟨h1, h2, Or.inr h⟩
  · exact Or.inl (Or.inr (Or.inr h))
theorem sx_cat1 {post : Int32 → Prop} {g : Nat} (h1 : 1 ≤ g) (hg : g < 32) (h9 : g ≠ 9) (h15 : g ≠ 15) (h : post 1) : wpX_isCatchable post () (nI g) := by
  have a9 : ¬ nI g = 9 := fun z => h9 ((nI_eq (b := 9) (by omega) (by decide)).mp z)
  have a15 : ¬ nI g = 15 := fun z => h15 ((nI_eq (b := 15) (by omega) (by decide)).mp z)
  unfold wpX_isCatchable
  refine sx_sig1 h1 hg ?_
  exact br_f (by decide) (br_f a9 (br_f a15 h))
/-- k is no signal that can be caught -/
def sk_nc (k : Int32) : Prop := (k < 1 ∨ 31 < k) ∨ k = 9 ∨ k = 15
theorem sk_cat (k : Int32) : sk_nc k ∨ ∃ g, 1 ≤ g ∧ g < 32 ∧ g ≠ 9 ∧ g ≠ 15 ∧ k = nI g := by
  rcases sk_sig k with h | ⟨g, h1, h2, rfl⟩
  · exact Or.inl (Or.inl h)
  by_cases h9 : g = 9
  · subst h9; exact Or.inl (Or.inr (Or.inl rfl))
  by_cases h15 : g = 15
  · subst h15; exact Or.inl (Or.inr (Or.inr rfl))
  exact Or.inr ⟨g, h1, h2, h9, h15, rfl⟩
theorem sx_cat0 {post : Int32 → Prop} {k : Int32} (hk : sk_nc k) (h : post 0) : wpX_isCatchable post () k := by
  unfold wpX_isCatchable
  rcases hk with hk | rfl | rfl
  · exact sx_sig0 hk (br_t rfl h)
  · exact sx_sig1 (g := 9) (by decide) (by decide) (br_f (by decide) (br_t rfl h))
  · exact sx_sig1 (g := 15) (by decide) (by decide) (br_f (by decide) (br_f (by decide) (br_t rfl h)))
section
variable {np nd es : Nat} {ls et : Int32} {co ca pc ra rb sp mk dp fc fa fb fm sl st lf su pg pn ss ql qs qr hd fl ek ep ev er : Nat → Int32}
theorem sx_seta1 {post : Int32 → St2 → Prop} {p g : Nat} {x f : Int32} (hp : p < np) (hn : np ≤ 4) (hl : lf p = 0) (h1 : 1 ≤ g) (hg : g < 32) (h9 : g ≠ 9) (h15 : g ≠ 15) (hx : x = -2 ∨ x = -1 ∨ ∃ j, j < 32 ∧ x = nI j) (h : post (hd (p * 32 + g)) (nI np, nI nd, ls, et, nI es, co, ca, pc, ra, rb, sp, mk, dp, fc, fa, fb, fm, sl, st, lf, su, pg, ss, ql, qs, qr, upd hd (p * 32 + g) x, upd fl (p * 32 + g) (f &&& 7), ek, ep, ev, er)) : wpX_setAction post (nI np, nI nd, ls, et, nI es, co, ca, pc, ra, rb, sp, mk, dp, fc, fa, fb, fm, sl, st, lf, su, pg, ss, ql, qs, qr, hd, fl, ek, ep, ev, er) (nI p) (nI g) x f := by
  have e3 : vp_in (nI (p * 32 + g)) 128 := vp_in_nI (by omega) (by decide)
  have e4 : (nI (p * 32 + g)).toNatClampNeg = p * 32 + g := nI_clamp (by omega)
  unfold wpX_setAction
  refine sx_al1 hp hn hl ?_
  refine br_f (by decide) ?_
  refine sx_cat1 h1 hg h9 h15 ?_
  refine br_f (by decide) ?_
  refine sx_hd1 hx ?_
  refine br_f (by decide) ?_
  simp only [sk_ix32, e3, e4, true_implies, false_implies, not_true_eq_false, not_false_eq_true, and_true, true_and, forall_eq, implies_true]
  exact h
theorem sx_seta0 {post : Int32 → St2 → Prop} {p : Nat} {k x f : Int32} (hp : p < np) (hn : np ≤ 4) (hl : lf p = 0) (hk : sk_nc k) (h : post (-22) (nI np, nI nd, ls, et, nI es, co, ca, pc, ra, rb, sp, mk, dp, fc, fa, fb, fm, sl, st, lf, su, pg, ss, ql, qs, qr, hd, fl, ek, ep, ev, er)) : wpX_setAction post (nI np, nI nd, ls, et, nI es, co, ca, pc, ra, rb, sp, mk, dp, fc, fa, fb, fm, sl, st, lf, su, pg, ss, ql, qs, qr, hd, fl, ek, ep, ev, er) (nI p) k x f := by
  unfold wpX_setAction
  refine sx_al1 hp hn hl ?_
  refine br_f (by decide) ?_
  refine sx_cat0 hk ?_
  exact br_t rfl h
theorem sx_seta2 {post : Int32 → St2 → Prop} {p g : Nat} {x f : Int32} (hp : p < np) (hn : np ≤ 4) (hl : lf p = 0) (h1 : 1 ≤ g) (hg : g < 32) (h9 : g ≠ 9) (h15 : g ≠ 15) (n1 : ¬ x = -1) (n2 : ¬ x = -2) (hx : x < 0 ∨ nI 32 ≤ x) (h : post (-22) (nI np, nI nd, ls, et, nI es, co, ca, pc, ra, rb, sp, mk, dp, fc, fa, fb, fm, sl, st, lf, su, pg, ss, ql, qs, qr, hd, fl, ek, ep, ev, er)) : wpX_setAction post (nI np, nI nd, ls, et, nI es, co, ca, pc, ra, rb, sp, mk, dp, fc, fa, fb, fm, sl, st, lf, su, pg, ss, ql, qs, qr, hd, fl, ek, ep, ev, er) (nI p) (nI g) x f := by
  unfold wpX_setAction
  refine sx_al1 hp hn hl ?_
  refine br_f (by decide) ?_
  refine sx_cat1 h1 hg h9 h15 ?_
  refine br_f (by decide) ?_
  refine sx_hd0 n1 n2 hx ?_
  exact br_t rfl h
end
section
variable {np nd es : Nat} {ls et : Int32} {co ca pc ra rb sp mk dp fc fa fb fm sl st lf su pg pn ss ql qs qr hd fl ek ep ev er : Nat → Int32}
theorem sx_setb1 {post : Int32 → St2 → Prop} {p g : Nat} {x f : Int32} (hp : p < np) (hn : np ≤ 4) (hl : lf p = 0) (h1 : 1 ≤ g) (hg : g < 32) (h9 : g ≠ 9) (h15 : g ≠ 15) (hx : x = -2 ∨ x = -1 ∨ ∃ j, j < 32 ∧ x = nI j) (h : post (hd (p * 32 + g)) (nI np, nI nd, ls, et, nI es, co, ca, pc, ra, rb, sp, mk, dp, fc, fa, fb, fm, sl, st, lf, su, pg, ss, ql, qs, qr, upd hd (p * 32 + g) x, upd fl (p * 32 + g) (f &&& 7), ek, ep, ev, er)) : wpX_setAction_2 post (nI np, nI nd, ls, et, nI es, co, ca, pc, ra, rb, sp, mk, dp, fc, fa, fb, fm, sl, st, lf, su, pg, ss, ql, qs, qr, hd, fl, ek, ep, ev, er) (nI p) (nI g) x f := by
  have e3 : vp_in (nI (p * 32 + g)) 128 := vp_in_nI (by omega) (by decide)
  have e4 : (nI (p * 32 + g)).toNatClampNeg = p * 32 + g := nI_clamp (by omega)
  unfold wpX_setAction_2
  refine sx_al1 hp hn hl ?_
  refine br_f (by decide) ?_
  refine sx_cat1 h1 hg h9 h15 ?_
  refine br_f (by decide) ?_
  refine sx_hd1 hx ?_
  refine br_f (by decide) ?_
  simp only [sk_ix32, e3, e4, true_implies, false_implies, not_true_eq_false, not_false_eq_true, and_true, true_and, forall_eq, implies_true]
  exact h
theorem sx_setb0 {post : Int32 → St2 → Prop} {p : Nat} {k x f : Int32} (hp : p < np) (hn : np ≤ 4) (hl : lf p = 0) (hk : sk_nc k) (h : post (-22) (nI np, nI nd, ls, et, nI es, co, ca, pc, ra, rb, sp, mk, dp, fc, fa, fb, fm, sl, st, lf, su, pg, ss, ql, qs, qr, hd, fl, ek, ep, ev, er)) : wpX_setAction_2 post (nI np, nI nd, ls, et, nI es, co, ca, pc, ra, rb, sp, mk, dp, fc, fa, fb, fm, sl, st, lf, su, pg, ss, ql, qs, qr, hd, fl, ek, ep, ev, er) (nI p) k x f := by
  unfold wpX_setAction_2
  refine sx_al1 hp hn hl ?_
  refine br_f (by decide) ?_
  refine sx_cat0 hk ?_
  exact br_t rfl h
theorem sx_setb2 {post : Int32 → St2 → Prop} {p g : Nat} {x f : Int32} (hp : p < np) (hn : np ≤ 4) (hl : lf p = 0) (h1 : 1 ≤ g) (hg : g < 32) (h9 : g ≠ 9) (h15 : g ≠ 15) (n1 : ¬ x = -1) (n2 : ¬ x = -2) (hx : x < 0 ∨ nI 32 ≤ x) (h : post (-22) (nI np, nI nd, ls, et, nI es, co, ca, pc, ra, rb, sp, mk, dp, fc, fa, fb, fm, sl, st, lf, su, pg, ss, ql, qs, qr, hd, fl, ek, ep, ev, er)) : wpX_setAction_2 post (nI np, nI nd, ls, et, nI es, co, ca, pc, ra, rb, sp, mk, dp, fc, fa, fb, fm, sl, st, lf, su, pg, ss, ql, qs, qr, hd, fl, ek, ep, ev, er) (nI p) (nI g) x f := by
  unfold wpX_setAction_2
  refine sx_al1 hp hn hl ?_
  refine br_f (by decide) ?_
  refine sx_cat1 h1 hg h9 h15 ?_
  refine br_f (by decide) ?_
  refine sx_hd0 n1 n2 hx ?_
  exact br_t rfl h
end
