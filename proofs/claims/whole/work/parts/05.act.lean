section
variable {np nd es : Nat} {ls et : Int32} {co ca pc ra rb sp mk dp fc fa fb fm sl st lf su pg pn ss ql qs qr hd fl ek ep ev er : Nat → Int32}
/-! X: acting on one signal -/
theorem sx_push {post : SX → Prop} {p d : Nat} {r c a : Int32} (hp : p < 4) (hd4 : d < 4) (e : dp p = nI d) (hca : (0 < sl p ∧ r = 0 ∧ c = pc p + 1 ∧ a = -4) ∨ (¬ (0 < sl p ∧ r = 0) ∧ c = pc p ∧ a = ra p)) (h : post (nI np, nI nd, ls, et, nI es, co, ca, pc, ra, rb, upd sp p (sp p - 4), mk, upd dp p (nI (d + 1)), upd fc (p * 4 + d) c, upd fa (p * 4 + d) a, upd fb (p * 4 + d) (rb p), upd fm (p * 4 + d) (mk p), upd sl p 0, st, lf, su, pg, ss, ql, qs, qr, hd, fl, ek, ep, ev, er)) : wpX_pushFrame post (nI np, nI nd, ls, et, nI es, co, ca, pc, ra, rb, sp, mk, dp, fc, fa, fb, fm, sl, st, lf, su, pg, ss, ql, qs, qr, hd, fl, ek, ep, ev, er) (nI p) r := by
  have e1 : vp_in (nI p) 4 := vp_in_nI hp (by decide)
  have e2 : (nI p).toNatClampNeg = p := nI_clamp (by omega)
  have e3 : vp_in (nI (p * 4 + d)) 16 := vp_in_nI (by omega) (by decide)
  have e4 : (nI (p * 4 + d)).toNatClampNeg = p * 4 + d := nI_clamp (by omega)
  have n1 : ¬ (1 : Int32) = 0 := by decide
  rcases hca with ⟨z, rfl, rfl, rfl⟩ | ⟨z, rfl, rfl⟩
  · have z' : ¬ sl p ≤ 0 := Int32.not_le.mpr z
    simp only [wpX_pushFrame, wX_pushFrame_18, wX_pushFrame_65, wX_pushFrame_87, e1, e2, e, z', n1, sk_ix4, e3, e4, nI_1, true_implies, false_implies, not_true_eq_false, not_false_eq_true, and_true, true_and, forall_eq, implies_true]
    exact h
  · by_cases y : sl p ≤ 0
    · simp only [wpX_pushFrame, wX_pushFrame_17, wX_pushFrame_18, wX_pushFrame_65, wX_pushFrame_87, e1, e2, e, y, sk_ix4, e3, e4, nI_1, true_implies, false_implies, not_true_eq_false, not_false_eq_true, and_true, true_and, forall_eq, implies_true]
      exact h
    · have y2 : ¬ r = 0 := fun w => z ⟨Int32.not_le.mp y, w⟩
      simp only [wpX_pushFrame, wX_pushFrame_17, wX_pushFrame_18, wX_pushFrame_65, wX_pushFrame_87, e1, e2, e, y, y2, sk_ix4, e3, e4, nI_1, true_implies, false_implies, not_true_eq_false, not_false_eq_true, and_true, true_and, forall_eq, implies_true]
      exact h
theorem sx_e69 {post : SX → Prop} {p j : Nat} {x2 s x5 f : Int32} (hp : p < 4) (hj : j < 128) (hs : es ≤ 128) (h : post (nI np, nI nd, ls, et + 1, nI (sk_lgN es), co, ca, upd pc p x5, upd ra p x2, upd rb p s, sp, mk, dp, fc, fa, fb, fm, sl, st, lf, su, pg, ss, ql, qs, qr, sk_hdH hd j f, sk_flH fl j f, sk_lgA ek es 1, sk_lgA ep es (nI p), sk_lgA ev es x2, sk_lgA er es s)) : wX_enterHandler_69 post (nI p) x2 s (nI j) x5 f (nI np) (nI nd) ls et (nI es) co ca pc ra rb sp mk dp fc fa fb fm sl st lf su pg ss ql qs qr hd fl ek ep ev er := by
  have e1 : vp_in (nI p) 4 := vp_in_nI hp (by decide)
  have e2 : (nI p).toNatClampNeg = p := nI_clamp (by omega)
  have e3 : vp_in (nI j) 128 := vp_in_nI hj (by decide)
  have e4 : (nI j).toNatClampNeg = j := nI_clamp (by omega)
  by_cases f4 : f &&& 4 = 0
  · simp only [sk_hdH, sk_flH, if_pos f4] at h
    simp only [wX_enterHandler_69, e1, e2, f4, true_implies, false_implies, not_true_eq_false, not_false_eq_true, and_true, true_and, forall_eq, implies_true]
    unfold wX_enterHandler_114
    refine sx_log hs ?_
    exact h
  · simp only [sk_hdH, sk_flH, if_neg f4] at h
    simp only [wX_enterHandler_69, e1, e2, e3, e4, f4, true_implies, false_implies, not_true_eq_false, not_false_eq_true, and_true, true_and, forall_eq, implies_true]
    unfold wX_enterHandler_114
    refine sx_log hs ?_
    exact h
theorem sx_e40 {post : SX → Prop} {p g d : Nat} {s x5 f r : Int32} (hp : p < 4) (hg : g < 32) (hd4 : d < 4) (e : dp p = nI d) (hs : es ≤ 128) (hr : r = 0 ↔ f &&& 1 = 0)
    (h : post (nI np, nI nd, ls, et + 1, nI (sk_lgN es), co, ca, upd pc p x5, upd ra p (nI g), upd rb p s, upd sp p (sp p - 4), sk_mkH mk p g f, upd dp p (nI (d + 1)), upd fc (p * 4 + d) (sk_itC sl pc p f), upd fa (p * 4 + d) (sk_itA sl ra p f), upd fb (p * 4 + d) (rb p), upd fm (p * 4 + d) (mk p), upd sl p 0, st, lf, su, pg, ss, ql, qs, qr, sk_hdH hd (p * 32 + g) f, sk_flH fl (p * 32 + g) f, sk_lgA ek es 1, sk_lgA ep es (nI p), sk_lgA ev es (nI g), sk_lgA er es s)) : wX_enterHandler_40 post (nI p) (nI g) s (nI (p * 32 + g)) x5 f r (nI p) (nI np) (nI nd) ls et (nI es) co ca pc ra rb sp mk dp fc fa fb fm sl st lf su pg ss ql qs qr hd fl ek ep ev er := by
  have e1 : vp_in (nI p) 4 := vp_in_nI hp (by decide)
  have e2 : (nI p).toNatClampNeg = p := nI_clamp (by omega)
  have hca : (0 < sl p ∧ r = 0 ∧ sk_itC sl pc p f = pc p + 1 ∧ sk_itA sl ra p f = -4) ∨ (¬ (0 < sl p ∧ r = 0) ∧ sk_itC sl pc p f = pc p ∧ sk_itA sl ra p f = ra p) := by
    by_cases z : 0 < sl p ∧ f &&& 1 = 0
    · exact Or.inl ⟨z.1, hr.mpr z.2, if_pos z, if_pos z⟩
    · exact Or.inr ⟨fun y => z ⟨y.1, hr.mp y.2⟩, if_neg z, if_neg z⟩
  unfold wX_enterHandler_40
  refine sx_push hp hd4 e hca ?_
  by_cases f2 : f &&& 2 = 0
  · simp only [sk_mkH, if_pos f2] at h
    refine br_t f2 ⟨e1, e1, nm_r (by rw [e2]) ?_⟩
    exact sx_e69 hp (by omega) hs h
  · simp only [sk_mkH, if_neg f2] at h
    refine br_f f2 ?_
    exact sx_e69 hp (by omega) hs h
theorem sx_enter {post : SX → Prop} {p g d : Nat} {s : Int32} (hp : p < 4) (hg : g < 32) (hd4 : d < 4) (e : dp p = nI d) (hs : es ≤ 128) (h : post (nI np, nI nd, ls, et + 1, nI (sk_lgN es), co, ca, upd pc p (hd (p * 32 + g)), upd ra p (nI g), upd rb p s, upd sp p (sp p - 4), sk_mkH mk p g (fl (p * 32 + g)), upd dp p (nI (d + 1)), upd fc (p * 4 + d) (sk_itC sl pc p (fl (p * 32 + g))), upd fa (p * 4 + d) (sk_itA sl ra p (fl (p * 32 + g))), upd fb (p * 4 + d) (rb p), upd fm (p * 4 + d) (mk p), upd sl p 0, st, lf, su, pg, ss, ql, qs, qr, sk_hdH hd (p * 32 + g) (fl (p * 32 + g)), sk_flH fl (p * 32 + g) (fl (p * 32 + g)), sk_lgA ek es 1, sk_lgA ep es (nI p), sk_lgA ev es (nI g), sk_lgA er es s)) : wpX_enterHandler post (nI np, nI nd, ls, et, nI es, co, ca, pc, ra, rb, sp, mk, dp, fc, fa, fb, fm, sl, st, lf, su, pg, ss, ql, qs, qr, hd, fl, ek, ep, ev, er) (nI p) (nI g) s := by
  have e3 : vp_in (nI (p * 32 + g)) 128 := vp_in_nI (by omega) (by decide)
  have e4 : (nI (p * 32 + g)).toNatClampNeg = p * 32 + g := nI_clamp (by omega)
  simp only [wpX_enterHandler, sk_ix32, e3, e4, true_implies, false_implies, not_true_eq_false, not_false_eq_true, and_true, true_and, forall_eq, implies_true]
  refine br_c (fun f1 => ?_) (fun f1 => ?_)
  · exact sx_e40 hp hg hd4 e hs ⟨fun _ => f1, fun _ => rfl⟩ h
  · exact sx_e40 hp hg hd4 e hs ⟨fun z => absurd z (by decide), fun z => absurd z f1⟩ h
theorem sx_71 {post : SX → Prop} {p g s : Int32} (hs : es ≤ 128) (h : post (nI np, nI nd, ls, et + 1, nI (sk_lgN es), co, ca, pc, ra, rb, sp, mk, dp, fc, fa, fb, fm, sl, st, lf, su, pg, ss, ql, qs, qr, hd, fl, sk_lgA ek es 4, sk_lgA ep es p, sk_lgA ev es g, sk_lgA er es s)) : wX_act_71 post p g s (nI np) (nI nd) ls et (nI es) co ca pc ra rb sp mk dp fc fa fb fm sl st lf su pg ss ql qs qr hd fl ek ep ev er := by
  unfold wX_act_71
  refine sx_log hs ?_
  exact h
theorem sx_94 {post : SX → Prop} {p : Nat} {g s : Int32} (hp : p < 4) (hs : es ≤ 128) (h : post (nI np, nI nd, ls, et + 1, nI (sk_lgN es), co, ca, pc, ra, rb, sp, mk, dp, fc, fa, fb, fm, sl, upd st p 1, lf, su, pg, ss, ql, qs, qr, hd, fl, sk_lgA ek es 3, sk_lgA ep es (nI p), sk_lgA ev es g, sk_lgA er es s)) : wX_act_94 post (nI p) g s (nI np) (nI nd) ls et (nI es) co ca pc ra rb sp mk dp fc fa fb fm sl st lf su pg ss ql qs qr hd fl ek ep ev er := by
  have e1 : vp_in (nI p) 4 := vp_in_nI hp (by decide)
  have e2 : (nI p).toNatClampNeg = p := nI_clamp (by omega)
  unfold wX_act_94
  refine ⟨e1, nm_r (by rw [e2, sk_nb1]) ?_⟩
  refine sx_log hs ?_
  exact h
theorem sx_act_m2 {post : SX → Prop} {p g : Nat} {s : Int32} (hp : p < 4) (hg : g < 32) (he : hd (p * 32 + g) = -2) (hs : es ≤ 128) (h : post (nI np, nI nd, ls, et + 1, nI (sk_lgN es), co, ca, pc, ra, rb, sp, mk, dp, fc, fa, fb, fm, sl, st, lf, su, pg, ss, ql, qs, qr, hd, fl, sk_lgA ek es 4, sk_lgA ep es (nI p), sk_lgA ev es (nI g), sk_lgA er es s)) : wpX_act post (nI np, nI nd, ls, et, nI es, co, ca, pc, ra, rb, sp, mk, dp, fc, fa, fb, fm, sl, st, lf, su, pg, ss, ql, qs, qr, hd, fl, ek, ep, ev, er) (nI p) (nI g) s := by
  have e3 : vp_in (nI p * 32 + nI g) 128 := by rw [sk_ix32]; exact vp_in_nI (by omega) (by decide)
  have e4 : hd (nI p * 32 + nI g).toNatClampNeg = hd (p * 32 + g) := by rw [sk_ix32, nI_clamp (by omega)]
  unfold wpX_act
  refine ⟨e3, nm_r (e4.trans he) (br_t (by decide) (br_t rfl ?_))⟩
  exact sx_71 hs h
theorem sx_act_13 {post : SX → Prop} {p : Nat} {s : Int32} (hp : p < 4) (he : hd (p * 32 + 13) = -1) (hs : es ≤ 128) (h : post (nI np, nI nd, ls, et + 1, nI (sk_lgN es), co, ca, pc, ra, rb, sp, mk, dp, fc, fa, fb, fm, sl, st, lf, su, pg, ss, ql, qs, qr, hd, fl, sk_lgA ek es 4, sk_lgA ep es (nI p), sk_lgA ev es (nI 13), sk_lgA er es s)) : wpX_act post (nI np, nI nd, ls, et, nI es, co, ca, pc, ra, rb, sp, mk, dp, fc, fa, fb, fm, sl, st, lf, su, pg, ss, ql, qs, qr, hd, fl, ek, ep, ev, er) (nI p) (nI 13) s := by
  have e3 : vp_in (nI p * 32 + nI 13) 128 := by rw [sk_ix32]; exact vp_in_nI (by omega) (by decide)
  have e4 : hd (nI p * 32 + nI 13).toNatClampNeg = hd (p * 32 + 13) := by rw [sk_ix32, nI_clamp (by omega)]
  unfold wpX_act
  refine ⟨e3, nm_r (e4.trans he) (br_t (by decide) (br_f (by decide) (br_t rfl ?_)))⟩
  exact sx_71 hs h
theorem sx_act_14 {post : SX → Prop} {p : Nat} {s : Int32} (hp : p < 4) (he : hd (p * 32 + 14) = -1) (hs : es ≤ 128) (h : post (nI np, nI nd, ls, et + 1, nI (sk_lgN es), co, ca, pc, ra, rb, sp, mk, dp, fc, fa, fb, fm, sl, st, lf, su, pg, ss, ql, qs, qr, hd, fl, sk_lgA ek es 4, sk_lgA ep es (nI p), sk_lgA ev es (nI 14), sk_lgA er es s)) : wpX_act post (nI np, nI nd, ls, et, nI es, co, ca, pc, ra, rb, sp, mk, dp, fc, fa, fb, fm, sl, st, lf, su, pg, ss, ql, qs, qr, hd, fl, ek, ep, ev, er) (nI p) (nI 14) s := by
  have e3 : vp_in (nI p * 32 + nI 14) 128 := by rw [sk_ix32]; exact vp_in_nI (by omega) (by decide)
  have e4 : hd (nI p * 32 + nI 14).toNatClampNeg = hd (p * 32 + 14) := by rw [sk_ix32, nI_clamp (by omega)]
  unfold wpX_act
  refine ⟨e3, nm_r (e4.trans he) (br_t (by decide) (br_f (by decide) (br_f (by decide) (br_t rfl ?_))))⟩
  exact sx_71 hs h
theorem sx_act_12 {post : SX → Prop} {p : Nat} {s : Int32} (hp : p < 4) (he : hd (p * 32 + 12) = -1) (hs : es ≤ 128) (h : post (nI np, nI nd, ls, et + 1, nI (sk_lgN es), co, ca, pc, ra, rb, sp, mk, dp, fc, fa, fb, fm, sl, upd st p 1, lf, su, pg, ss, ql, qs, qr, hd, fl, sk_lgA ek es 3, sk_lgA ep es (nI p), sk_lgA ev es (nI 12), sk_lgA er es s)) : wpX_act post (nI np, nI nd, ls, et, nI es, co, ca, pc, ra, rb, sp, mk, dp, fc, fa, fb, fm, sl, st, lf, su, pg, ss, ql, qs, qr, hd, fl, ek, ep, ev, er) (nI p) (nI 12) s := by
  have e3 : vp_in (nI p * 32 + nI 12) 128 := by rw [sk_ix32]; exact vp_in_nI (by omega) (by decide)
  have e4 : hd (nI p * 32 + nI 12).toNatClampNeg = hd (p * 32 + 12) := by rw [sk_ix32, nI_clamp (by omega)]
  unfold wpX_act
  refine ⟨e3, nm_r (e4.trans he) (br_t (by decide) (br_f (by decide) (br_f (by decide) (br_f (by decide) (br_t rfl ?_)))))⟩
  exact sx_94 hp hs h
theorem sx_act_15 {post : SX → Prop} {p : Nat} {s : Int32} (hp : p < 4) (he : hd (p * 32 + 15) = -1) (hs : es ≤ 128) (h : post (nI np, nI nd, ls, et + 1, nI (sk_lgN es), co, ca, pc, ra, rb, sp, mk, dp, fc, fa, fb, fm, sl, upd st p 1, lf, su, pg, ss, ql, qs, qr, hd, fl, sk_lgA ek es 3, sk_lgA ep es (nI p), sk_lgA ev es (nI 15), sk_lgA er es s)) : wpX_act post (nI np, nI nd, ls, et, nI es, co, ca, pc, ra, rb, sp, mk, dp, fc, fa, fb, fm, sl, st, lf, su, pg, ss, ql, qs, qr, hd, fl, ek, ep, ev, er) (nI p) (nI 15) s := by
  have e3 : vp_in (nI p * 32 + nI 15) 128 := by rw [sk_ix32]; exact vp_in_nI (by omega) (by decide)
  have e4 : hd (nI p * 32 + nI 15).toNatClampNeg = hd (p * 32 + 15) := by rw [sk_ix32, nI_clamp (by omega)]
  unfold wpX_act
  refine ⟨e3, nm_r (e4.trans he) (br_t (by decide) (br_f (by decide) (br_f (by decide) (br_f (by decide) (br_f (by decide) (br_t rfl ?_))))))⟩
  exact sx_94 hp hs h
theorem sx_act_die {post : SX → Prop} {p g : Nat} {s : Int32} (hp : p < 4) (hg : g < 32) (h12 : g ≠ 12) (h13 : g ≠ 13) (h14 : g ≠ 14) (h15 : g ≠ 15) (he : hd (p * 32 + g) = -1) (hs : es ≤ 128) (h : post (nI np, nI nd, ls, et + 1, nI (sk_lgN es), co, ca, pc, ra, rb, sp, mk, dp, fc, fa, fb, fm, upd sl p 0, upd st p 0, upd lf p 4, upd su p (nI g), upd pg p 0, sk_clr ss (p * 16) 16, upd ql p 0, qs, qr, hd, fl, sk_lgA ek es 2, sk_lgA ep es (nI p), sk_lgA ev es (nI g), sk_lgA er es s)) : wpX_act post (nI np, nI nd, ls, et, nI es, co, ca, pc, ra, rb, sp, mk, dp, fc, fa, fb, fm, sl, st, lf, su, pg, ss, ql, qs, qr, hd, fl, ek, ep, ev, er) (nI p) (nI g) s := by
  have a12 : ¬ nI g = 12 := fun z => absurd ((nI_eq (b := 12) (by omega) (by decide)).mp z) (by omega)
  have a13 : ¬ nI g = 13 := fun z => absurd ((nI_eq (b := 13) (by omega) (by decide)).mp z) (by omega)
  have a14 : ¬ nI g = 14 := fun z => absurd ((nI_eq (b := 14) (by omega) (by decide)).mp z) (by omega)
  have a15 : ¬ nI g = 15 := fun z => absurd ((nI_eq (b := 15) (by omega) (by decide)).mp z) (by omega)
  have e3 : vp_in (nI p * 32 + nI g) 128 := by rw [sk_ix32]; exact vp_in_nI (by omega) (by decide)
  have e4 : hd (nI p * 32 + nI g).toNatClampNeg = hd (p * 32 + g) := by rw [sk_ix32, nI_clamp (by omega)]
  unfold wpX_act
  refine ⟨e3, nm_r (e4.trans he) (br_t (by decide) (br_f (by decide) (br_f a13 (br_f a14 (br_f a12 (br_f a15 ?_))))))⟩
  refine sx_term hp hs ?_
  exact h
theorem sx_act_over {post : SX → Prop} {p g d : Nat} {s : Int32} (hp : p < 4) (hg : g < 32) (he : 0 ≤ hd (p * 32 + g)) (e : dp p = nI d) (hd4 : d ≤ 4) (hnd : nd ≤ d) (hs : es ≤ 128) (h : post (nI np, nI nd, ls, et + 1, nI (sk_lgN es), co, ca, pc, ra, rb, sp, mk, dp, fc, fa, fb, fm, upd sl p 0, upd st p 0, upd lf p 4, upd su p 11, upd pg p 0, sk_clr ss (p * 16) 16, upd ql p 0, qs, qr, hd, fl, sk_lgA ek es 2, sk_lgA ep es (nI p), sk_lgA ev es 11, sk_lgA er es s)) : wpX_act post (nI np, nI nd, ls, et, nI es, co, ca, pc, ra, rb, sp, mk, dp, fc, fa, fb, fm, sl, st, lf, su, pg, ss, ql, qs, qr, hd, fl, ek, ep, ev, er) (nI p) (nI g) s := by
  have e1 : vp_in (nI p) 4 := vp_in_nI hp (by decide)
  have e2 : (nI p).toNatClampNeg = p := nI_clamp (by omega)
  have e3 : vp_in (nI p * 32 + nI g) 128 := by rw [sk_ix32]; exact vp_in_nI (by omega) (by decide)
  have e4 : hd (nI p * 32 + nI g).toNatClampNeg = hd (p * 32 + g) := by rw [sk_ix32, nI_clamp (by omega)]
  unfold wpX_act
  refine ⟨e3, nm_r e4 (br_f (Int32.not_lt.mpr he) ⟨e1, br_t ?_ ?_⟩)⟩
  · rw [e2, e]; exact nI_le hnd (by omega)
  · refine sx_term hp hs ?_
    exact h
theorem sx_act_ent {post : SX → Prop} {p g d : Nat} {s : Int32} (hp : p < 4) (hg : g < 32) (he : 0 ≤ hd (p * 32 + g)) (e : dp p = nI d) (hnd : nd ≤ 4) (hd4 : d < nd) (hs : es ≤ 128) (h : post (nI np, nI nd, ls, et + 1, nI (sk_lgN es), co, ca, upd pc p (hd (p * 32 + g)), upd ra p (nI g), upd rb p s, upd sp p (sp p - 4), sk_mkH mk p g (fl (p * 32 + g)), upd dp p (nI (d + 1)), upd fc (p * 4 + d) (sk_itC sl pc p (fl (p * 32 + g))), upd fa (p * 4 + d) (sk_itA sl ra p (fl (p * 32 + g))), upd fb (p * 4 + d) (rb p), upd fm (p * 4 + d) (mk p), upd sl p 0, st, lf, su, pg, ss, ql, qs, qr, sk_hdH hd (p * 32 + g) (fl (p * 32 + g)), sk_flH fl (p * 32 + g) (fl (p * 32 + g)), sk_lgA ek es 1, sk_lgA ep es (nI p), sk_lgA ev es (nI g), sk_lgA er es s)) : wpX_act post (nI np, nI nd, ls, et, nI es, co, ca, pc, ra, rb, sp, mk, dp, fc, fa, fb, fm, sl, st, lf, su, pg, ss, ql, qs, qr, hd, fl, ek, ep, ev, er) (nI p) (nI g) s := by
  have e1 : vp_in (nI p) 4 := vp_in_nI hp (by decide)
  have e2 : (nI p).toNatClampNeg = p := nI_clamp (by omega)
  have e3 : vp_in (nI p * 32 + nI g) 128 := by rw [sk_ix32]; exact vp_in_nI (by omega) (by decide)
  have e4 : hd (nI p * 32 + nI g).toNatClampNeg = hd (p * 32 + g) := by rw [sk_ix32, nI_clamp (by omega)]
  unfold wpX_act
  refine ⟨e3, nm_r e4 (br_f (Int32.not_lt.mpr he) ⟨e1, br_f ?_ ?_⟩)⟩
  · rw [e2, e]; exact nI_ge hd4 (by omega)
  · refine sx_enter hp hg (by omega) e hs ?_
    exact h
/-! Y: the same, behind the choice of the signal -/
theorem sy_292 {post : Int32 → SY → Prop} {p g s : Int32} (hs : es ≤ 128) (h : post 1 (nI np, nI nd, ls, et + 1, nI (sk_lgN es), co, ca, pc, ra, rb, sp, mk, dp, sl, lf, su, ql, st, pn, ss, qs, qr, hd, fl, fc, fa, fb, fm, sk_lgA ek es 4, sk_lgA ep es p, sk_lgA ev es g, sk_lgA er es s)) : wY_deliver_292 post p g s (nI np) (nI nd) ls et (nI es) co ca pc ra rb sp mk dp sl lf su ql st pn ss qs qr hd fl fc fa fb fm ek ep ev er := by
  unfold wY_deliver_292
  refine sy_log hs ?_
  exact h
theorem sy_320 {post : Int32 → SY → Prop} {p : Nat} {g s : Int32} (hp : p < 4) (hs : es ≤ 128) (h : post 1 (nI np, nI nd, ls, et + 1, nI (sk_lgN es), co, ca, pc, ra, rb, sp, mk, dp, sl, lf, su, ql, upd st p 1, pn, ss, qs, qr, hd, fl, fc, fa, fb, fm, sk_lgA ek es 3, sk_lgA ep es (nI p), sk_lgA ev es g, sk_lgA er es s)) : wY_deliver_320 post (nI p) g s (nI np) (nI nd) ls et (nI es) co ca pc ra rb sp mk dp sl lf su ql st pn ss qs qr hd fl fc fa fb fm ek ep ev er := by
  have e1 : vp_in (nI p) 4 := vp_in_nI hp (by decide)
  have e2 : (nI p).toNatClampNeg = p := nI_clamp (by omega)
  unfold wY_deliver_320
  refine ⟨e1, nm_r (by rw [e2, sk_nb1]) ?_⟩
  refine sy_log hs ?_
  exact h
theorem sy_548 {post : Int32 → SY → Prop} {p g : Nat} {s x5 f : Int32} (hp : p < 4) (hg : g < 32) (hs : es ≤ 128) (h : post 1 (nI np, nI nd, ls, et + 1, nI (sk_lgN es), co, ca, upd pc p x5, upd ra p (nI g), upd rb p s, sp, mk, dp, sl, lf, su, ql, st, pn, ss, qs, qr, sk_hdH hd (p * 32 + g) f, sk_flH fl (p * 32 + g) f, fc, fa, fb, fm, sk_lgA ek es 1, sk_lgA ep es (nI p), sk_lgA ev es (nI g), sk_lgA er es s)) : wY_deliver_548 post (nI p) (nI g) s x5 f (nI np) (nI nd) ls et (nI es) co ca pc ra rb sp mk dp sl lf su ql st pn ss qs qr hd fl fc fa fb fm ek ep ev er := by
  have e1 : vp_in (nI p) 4 := vp_in_nI hp (by decide)
  have e2 : (nI p).toNatClampNeg = p := nI_clamp (by omega)
  have e3 : vp_in (nI (p * 32 + g)) 128 := vp_in_nI (by omega) (by decide)
  have e4 : (nI (p * 32 + g)).toNatClampNeg = p * 32 + g := nI_clamp (by omega)
  by_cases f4 : f &&& 4 = 0
  · simp only [sk_hdH, sk_flH, if_pos f4] at h
    simp only [wY_deliver_548, e1, e2, f4, true_implies, false_implies, not_true_eq_false, not_false_eq_true, and_true, true_and, forall_eq, implies_true]
    unfold wY_deliver_601
    refine sy_log hs ?_
    exact h
  · simp only [sk_hdH, sk_flH, if_neg f4] at h
    simp only [wY_deliver_548, e1, e2, sk_ix32, e3, e4, f4, true_implies, false_implies, not_true_eq_false, not_false_eq_true, and_true, true_and, forall_eq, implies_true]
    unfold wY_deliver_601
    refine sy_log hs ?_
    exact h
theorem sy_445 {post : Int32 → SY → Prop} {p g d : Nat} {s x5 f c a : Int32} (hp : p < 4) (hg : g < 32) (hd4 : d < 4) (e : dp p = nI d) (hs : es ≤ 128)
    (h : post 1 (nI np, nI nd, ls, et + 1, nI (sk_lgN es), co, ca, upd pc p x5, upd ra p (nI g), upd rb p s, upd sp p (sp p - 4), sk_mkH mk p g f, upd dp p (nI (d + 1)), sl, lf, su, ql, st, pn, ss, qs, qr, sk_hdH hd (p * 32 + g) f, sk_flH fl (p * 32 + g) f, upd fc (p * 4 + d) c, upd fa (p * 4 + d) a, upd fb (p * 4 + d) (rb p), upd fm (p * 4 + d) (mk p), sk_lgA ek es 1, sk_lgA ep es (nI p), sk_lgA ev es (nI g), sk_lgA er es s)) : wY_deliver_445 post (nI p) (nI g) s x5 f c a (nI np) (nI nd) ls et (nI es) co ca pc ra rb sp mk dp sl lf su ql st pn ss qs qr hd fl fc fa fb fm ek ep ev er := by
  have e1 : vp_in (nI p) 4 := vp_in_nI hp (by decide)
  have e2 : (nI p).toNatClampNeg = p := nI_clamp (by omega)
  have e3 : vp_in (nI (p * 4 + d)) 16 := vp_in_nI (by omega) (by decide)
  have e4 : (nI (p * 4 + d)).toNatClampNeg = p * 4 + d := nI_clamp (by omega)
  by_cases f2 : f &&& 2 = 0
  · simp only [sk_mkH, if_pos f2] at h
    simp only [wY_deliver_445, wpY_clean, e1, e2, e, sk_ix4, e3, e4, nI_1, f2, true_implies, false_implies, not_true_eq_false, not_false_eq_true, and_true, true_and, forall_eq, implies_true]
    exact sy_548 hp hg hs h
  · simp only [sk_mkH, if_neg f2] at h
    simp only [wY_deliver_445, e1, e2, e, sk_ix4, e3, e4, nI_1, f2, true_implies, false_implies, not_true_eq_false, not_false_eq_true, and_true, true_and, forall_eq, implies_true]
    exact sy_548 hp hg hs h
theorem sy_enter {post : Int32 → SY → Prop} {p g d : Nat} {s x5 : Int32} (hp : p < 4) (hg : g < 32) (hd4 : d < nd) (hnd : nd ≤ 4) (e : dp p = nI d) (hs : es ≤ 128) (hsl : 0 ≤ sl p) (h1 : ¬ x5 = -1) (hx : hd (p * 32 + g) = x5) (h : post 1 (nI np, nI nd, ls, et + 1, nI (sk_lgN es), co, ca, upd pc p (hd (p * 32 + g)), upd ra p (nI g), upd rb p s, upd sp p (sp p - 4), sk_mkH mk p g (fl (p * 32 + g)), upd dp p (nI (d + 1)), upd sl p 0, lf, su, ql, st, pn, ss, qs, qr, sk_hdH hd (p * 32 + g) (fl (p * 32 + g)), sk_flH fl (p * 32 + g) (fl (p * 32 + g)), upd fc (p * 4 + d) (sk_itC sl pc p (fl (p * 32 + g))), upd fa (p * 4 + d) (sk_itA sl ra p (fl (p * 32 + g))), upd fb (p * 4 + d) (rb p), upd fm (p * 4 + d) (mk p), sk_lgA ek es 1, sk_lgA ep es (nI p), sk_lgA ev es (nI g), sk_lgA er es s)) : wY_deliver_337 post (nI p) (nI g) s x5 (fl (p * 32 + g)) (nI np) (nI nd) ls et (nI es) co ca pc ra rb sp mk dp sl lf su ql st pn ss qs qr hd fl fc fa fb fm ek ep ev er := by
  have e1 : vp_in (nI p) 4 := vp_in_nI hp (by decide)
  have e2 : (nI p).toNatClampNeg = p := nI_clamp (by omega)
  subst hx
  have z : nI d < nI nd := nI_lt hd4 (by omega)
  unfold wY_deliver_337
  refine br_f h1 ⟨e1, br_t (by rw [e2, e]; exact z) ⟨e1, nm_r (by rw [e2]) ⟨e1, nm_r (by rw [e2]) ⟨e1, ?_⟩⟩⟩⟩
  by_cases y : sl p ≤ 0
  · have y0 : sl p = 0 := Int32.le_antisymm y hsl
    have yy : ¬ (0 < sl p ∧ fl (p * 32 + g) &&& 1 = 0) := fun w => absurd w.1 (Int32.not_lt.mpr y)
    simp only [sk_itC, sk_itA, if_neg yy, sk_same y0] at h
    refine br_t (by rw [e2]; exact y) ?_
    exact sy_445 hp hg (by omega) e hs h
  · have y1 : 0 < sl p := Int32.not_le.mp y
    refine br_f (by rw [e2]; exact y) ⟨e1, nm_r (by rw [e2]) ?_⟩
    by_cases f1 : fl (p * 32 + g) &&& 1 = 0
    · have yy : 0 < sl p ∧ fl (p * 32 + g) &&& 1 = 0 := ⟨y1, f1⟩
      simp only [sk_itC, sk_itA, if_pos yy] at h
      refine br_t f1 ⟨e1, nm_r (by rw [e2]) ?_⟩
      exact sy_445 hp hg (by omega) e hs h
    · have yy : ¬ (0 < sl p ∧ fl (p * 32 + g) &&& 1 = 0) := fun w => f1 w.2
      simp only [sk_itC, sk_itA, if_neg yy] at h
      refine br_f f1 ?_
      exact sy_445 hp hg (by omega) e hs h
theorem sy_act_m2 {post : Int32 → SY → Prop} {p g : Nat} {s : Int32} (hp : p < 4) (hg : g < 32) (h1 : 1 ≤ g) (he : hd (p * 32 + g) = -2) (hs : es ≤ 128) (h : post 1 (nI np, nI nd, ls, et + 1, nI (sk_lgN es), co, ca, pc, ra, rb, sp, mk, dp, sl, lf, su, ql, st, pn, ss, qs, qr, hd, fl, fc, fa, fb, fm, sk_lgA ek es 4, sk_lgA ep es (nI p), sk_lgA ev es (nI g), sk_lgA er es s)) : wY_deliver_235 post (nI p) (nI g) s (nI np) (nI nd) ls et (nI es) co ca pc ra rb sp mk dp sl lf su ql st pn ss qs qr hd fl fc fa fb fm ek ep ev er := by
  have g0 : ¬ nI g = 0 := nI_ne0 h1 (by omega)
  have e3 : vp_in (nI p * 32 + nI g) 128 := by rw [sk_ix32]; exact vp_in_nI (by omega) (by decide)
  have e4 : hd (nI p * 32 + nI g).toNatClampNeg = hd (p * 32 + g) := by rw [sk_ix32, nI_clamp (by omega)]
  have e5 : fl (nI p * 32 + nI g).toNatClampNeg = fl (p * 32 + g) := by rw [sk_ix32, nI_clamp (by omega)]
  unfold wY_deliver_235
  refine br_f g0 ⟨e3, nm_r (e4.trans he) ⟨e3, nm_r e5 (br_t rfl ?_)⟩⟩
  exact sy_292 hs h
theorem sy_act_13 {post : Int32 → SY → Prop} {p : Nat} {s : Int32} (hp : p < 4) (he : hd (p * 32 + 13) = -1) (hs : es ≤ 128) (h : post 1 (nI np, nI nd, ls, et + 1, nI (sk_lgN es), co, ca, pc, ra, rb, sp, mk, dp, sl, lf, su, ql, st, pn, ss, qs, qr, hd, fl, fc, fa, fb, fm, sk_lgA ek es 4, sk_lgA ep es (nI p), sk_lgA ev es (nI 13), sk_lgA er es s)) : wY_deliver_235 post (nI p) (nI 13) s (nI np) (nI nd) ls et (nI es) co ca pc ra rb sp mk dp sl lf su ql st pn ss qs qr hd fl fc fa fb fm ek ep ev er := by
  have e3 : vp_in (nI p * 32 + nI 13) 128 := by rw [sk_ix32]; exact vp_in_nI (by omega) (by decide)
  have e4 : hd (nI p * 32 + nI 13).toNatClampNeg = hd (p * 32 + 13) := by rw [sk_ix32, nI_clamp (by omega)]
  have e5 : fl (nI p * 32 + nI 13).toNatClampNeg = fl (p * 32 + 13) := by rw [sk_ix32, nI_clamp (by omega)]
  unfold wY_deliver_235
  refine br_f (by decide) ⟨e3, nm_r (e4.trans he) ⟨e3, nm_r e5 (br_f (by decide) (br_t rfl (br_t rfl ?_)))⟩⟩
  exact sy_292 hs h
theorem sy_act_14 {post : Int32 → SY → Prop} {p : Nat} {s : Int32} (hp : p < 4) (he : hd (p * 32 + 14) = -1) (hs : es ≤ 128) (h : post 1 (nI np, nI nd, ls, et + 1, nI (sk_lgN es), co, ca, pc, ra, rb, sp, mk, dp, sl, lf, su, ql, st, pn, ss, qs, qr, hd, fl, fc, fa, fb, fm, sk_lgA ek es 4, sk_lgA ep es (nI p), sk_lgA ev es (nI 14), sk_lgA er es s)) : wY_deliver_235 post (nI p) (nI 14) s (nI np) (nI nd) ls et (nI es) co ca pc ra rb sp mk dp sl lf su ql st pn ss qs qr hd fl fc fa fb fm ek ep ev er := by
  have e3 : vp_in (nI p * 32 + nI 14) 128 := by rw [sk_ix32]; exact vp_in_nI (by omega) (by decide)
  have e4 : hd (nI p * 32 + nI 14).toNatClampNeg = hd (p * 32 + 14) := by rw [sk_ix32, nI_clamp (by omega)]
  have e5 : fl (nI p * 32 + nI 14).toNatClampNeg = fl (p * 32 + 14) := by rw [sk_ix32, nI_clamp (by omega)]
  unfold wY_deliver_235
  refine br_f (by decide) ⟨e3, nm_r (e4.trans he) ⟨e3, nm_r e5 (br_f (by decide) (br_t rfl (br_f (by decide) (br_t rfl ?_))))⟩⟩
  exact sy_292 hs h
theorem sy_act_12 {post : Int32 → SY → Prop} {p : Nat} {s : Int32} (hp : p < 4) (he : hd (p * 32 + 12) = -1) (hs : es ≤ 128) (h : post 1 (nI np, nI nd, ls, et + 1, nI (sk_lgN es), co, ca, pc, ra, rb, sp, mk, dp, sl, lf, su, ql, upd st p 1, pn, ss, qs, qr, hd, fl, fc, fa, fb, fm, sk_lgA ek es 3, sk_lgA ep es (nI p), sk_lgA ev es (nI 12), sk_lgA er es s)) : wY_deliver_235 post (nI p) (nI 12) s (nI np) (nI nd) ls et (nI es) co ca pc ra rb sp mk dp sl lf su ql st pn ss qs qr hd fl fc fa fb fm ek ep ev er := by
  have e3 : vp_in (nI p * 32 + nI 12) 128 := by rw [sk_ix32]; exact vp_in_nI (by omega) (by decide)
  have e4 : hd (nI p * 32 + nI 12).toNatClampNeg = hd (p * 32 + 12) := by rw [sk_ix32, nI_clamp (by omega)]
  have e5 : fl (nI p * 32 + nI 12).toNatClampNeg = fl (p * 32 + 12) := by rw [sk_ix32, nI_clamp (by omega)]
  unfold wY_deliver_235
  refine br_f (by decide) ⟨e3, nm_r (e4.trans he) ⟨e3, nm_r e5 (br_f (by decide) (br_t rfl (br_f (by decide) (br_f (by decide) ?_))))⟩⟩
  unfold wY_deliver_302
  refine br_t rfl (br_t rfl ?_)
  exact sy_320 hp hs h
theorem sy_act_15 {post : Int32 → SY → Prop} {p : Nat} {s : Int32} (hp : p < 4) (he : hd (p * 32 + 15) = -1) (hs : es ≤ 128) (h : post 1 (nI np, nI nd, ls, et + 1, nI (sk_lgN es), co, ca, pc, ra, rb, sp, mk, dp, sl, lf, su, ql, upd st p 1, pn, ss, qs, qr, hd, fl, fc, fa, fb, fm, sk_lgA ek es 3, sk_lgA ep es (nI p), sk_lgA ev es (nI 15), sk_lgA er es s)) : wY_deliver_235 post (nI p) (nI 15) s (nI np) (nI nd) ls et (nI es) co ca pc ra rb sp mk dp sl lf su ql st pn ss qs qr hd fl fc fa fb fm ek ep ev er := by
  have e3 : vp_in (nI p * 32 + nI 15) 128 := by rw [sk_ix32]; exact vp_in_nI (by omega) (by decide)
  have e4 : hd (nI p * 32 + nI 15).toNatClampNeg = hd (p * 32 + 15) := by rw [sk_ix32, nI_clamp (by omega)]
  have e5 : fl (nI p * 32 + nI 15).toNatClampNeg = fl (p * 32 + 15) := by rw [sk_ix32, nI_clamp (by omega)]
  unfold wY_deliver_235
  refine br_f (by decide) ⟨e3, nm_r (e4.trans he) ⟨e3, nm_r e5 (br_f (by decide) (br_t rfl (br_f (by decide) (br_f (by decide) ?_))))⟩⟩
  unfold wY_deliver_302
  refine br_t rfl (br_f (by decide) (br_t rfl ?_))
  exact sy_320 hp hs h
theorem sy_act_die {post : Int32 → SY → Prop} {p g : Nat} {s : Int32} (hp : p < 4) (hg : g < 32) (h1 : 1 ≤ g) (h12 : g ≠ 12) (h13 : g ≠ 13) (h14 : g ≠ 14) (h15 : g ≠ 15) (he : hd (p * 32 + g) = -1) (hs : es ≤ 128) (h : post 1 (nI np, nI nd, ls, et + 1, nI (sk_lgN es), co, ca, pc, ra, rb, sp, mk, dp, upd sl p 0, upd lf p 4, upd su p (nI g), upd ql p 0, upd st p 0, sk_clr pn (p * 16) 16, sk_clr ss (p * 16) 16, qs, qr, hd, fl, fc, fa, fb, fm, sk_lgA ek es 2, sk_lgA ep es (nI p), sk_lgA ev es (nI g), sk_lgA er es s)) : wY_deliver_235 post (nI p) (nI g) s (nI np) (nI nd) ls et (nI es) co ca pc ra rb sp mk dp sl lf su ql st pn ss qs qr hd fl fc fa fb fm ek ep ev er := by
  have g0 : ¬ nI g = 0 := nI_ne0 h1 (by omega)
  have a12 : ¬ nI g = 12 := fun z => absurd ((nI_eq (b := 12) (by omega) (by decide)).mp z) (by omega)
  have a13 : ¬ nI g = 13 := fun z => absurd ((nI_eq (b := 13) (by omega) (by decide)).mp z) (by omega)
  have a14 : ¬ nI g = 14 := fun z => absurd ((nI_eq (b := 14) (by omega) (by decide)).mp z) (by omega)
  have a15 : ¬ nI g = 15 := fun z => absurd ((nI_eq (b := 15) (by omega) (by decide)).mp z) (by omega)
  have e3 : vp_in (nI p * 32 + nI g) 128 := by rw [sk_ix32]; exact vp_in_nI (by omega) (by decide)
  have e4 : hd (nI p * 32 + nI g).toNatClampNeg = hd (p * 32 + g) := by rw [sk_ix32, nI_clamp (by omega)]
  have e5 : fl (nI p * 32 + nI g).toNatClampNeg = fl (p * 32 + g) := by rw [sk_ix32, nI_clamp (by omega)]
  unfold wY_deliver_235
  refine br_f g0 ⟨e3, nm_r (e4.trans he) ⟨e3, nm_r e5 (br_f (by decide) (br_t rfl (br_f a13 (br_f a14 ?_))))⟩⟩
  unfold wY_deliver_302
  refine br_t rfl (br_f a12 (br_f a15 ?_))
  unfold wY_deliver_337
  refine br_t rfl ?_
  refine sy_die hp ?_
  refine sy_log hs ?_
  exact h
theorem sy_act_over {post : Int32 → SY → Prop} {p g d : Nat} {s : Int32} (hp : p < 4) (hg : g < 32) (h1 : 1 ≤ g) (he : 0 ≤ hd (p * 32 + g)) (e : dp p = nI d) (hd4 : d ≤ 4) (hnd : nd ≤ d) (hs : es ≤ 128) (h : post 1 (nI np, nI nd, ls, et + 1, nI (sk_lgN es), co, ca, pc, ra, rb, sp, mk, dp, upd sl p 0, upd lf p 4, upd su p 11, upd ql p 0, upd st p 0, sk_clr pn (p * 16) 16, sk_clr ss (p * 16) 16, qs, qr, hd, fl, fc, fa, fb, fm, sk_lgA ek es 2, sk_lgA ep es (nI p), sk_lgA ev es 11, sk_lgA er es s)) : wY_deliver_235 post (nI p) (nI g) s (nI np) (nI nd) ls et (nI es) co ca pc ra rb sp mk dp sl lf su ql st pn ss qs qr hd fl fc fa fb fm ek ep ev er := by
  have e1 : vp_in (nI p) 4 := vp_in_nI hp (by decide)
  have e2 : (nI p).toNatClampNeg = p := nI_clamp (by omega)
  have g0 : ¬ nI g = 0 := nI_ne0 h1 (by omega)
  have n1 : ¬ hd (p * 32 + g) = -1 := fun z => absurd (z ▸ he) (by decide)
  have n2 : ¬ hd (p * 32 + g) = -2 := fun z => absurd (z ▸ he) (by decide)
  have e3 : vp_in (nI p * 32 + nI g) 128 := by rw [sk_ix32]; exact vp_in_nI (by omega) (by decide)
  have e4 : hd (nI p * 32 + nI g).toNatClampNeg = hd (p * 32 + g) := by rw [sk_ix32, nI_clamp (by omega)]
  have e5 : fl (nI p * 32 + nI g).toNatClampNeg = fl (p * 32 + g) := by rw [sk_ix32, nI_clamp (by omega)]
  unfold wY_deliver_235
  refine br_f g0 ⟨e3, nm_r e4 ⟨e3, nm_r e5 (br_f n2 (br_f n1 ?_))⟩⟩
  unfold wY_deliver_302
  refine br_f n1 ?_
  unfold wY_deliver_337
  refine br_f n1 ⟨e1, br_f ?_ ?_⟩
  · rw [e2, e]; exact nI_nlt hnd (by omega)
  · refine sy_die hp ?_
    refine sy_log hs ?_
    exact h
theorem sy_act_ent {post : Int32 → SY → Prop} {p g d : Nat} {s : Int32} (hp : p < 4) (hg : g < 32) (h1 : 1 ≤ g) (he : 0 ≤ hd (p * 32 + g)) (e : dp p = nI d) (hnd : nd ≤ 4) (hd4 : d < nd) (hsl : 0 ≤ sl p) (hs : es ≤ 128) (h : post 1 (nI np, nI nd, ls, et + 1, nI (sk_lgN es), co, ca, upd pc p (hd (p * 32 + g)), upd ra p (nI g), upd rb p s, upd sp p (sp p - 4), sk_mkH mk p g (fl (p * 32 + g)), upd dp p (nI (d + 1)), upd sl p 0, lf, su, ql, st, pn, ss, qs, qr, sk_hdH hd (p * 32 + g) (fl (p * 32 + g)), sk_flH fl (p * 32 + g) (fl (p * 32 + g)), upd fc (p * 4 + d) (sk_itC sl pc p (fl (p * 32 + g))), upd fa (p * 4 + d) (sk_itA sl ra p (fl (p * 32 + g))), upd fb (p * 4 + d) (rb p), upd fm (p * 4 + d) (mk p), sk_lgA ek es 1, sk_lgA ep es (nI p), sk_lgA ev es (nI g), sk_lgA er es s)) : wY_deliver_235 post (nI p) (nI g) s (nI np) (nI nd) ls et (nI es) co ca pc ra rb sp mk dp sl lf su ql st pn ss qs qr hd fl fc fa fb fm ek ep ev er := by
  have g0 : ¬ nI g = 0 := nI_ne0 h1 (by omega)
  have n1 : ¬ hd (p * 32 + g) = -1 := fun z => absurd (z ▸ he) (by decide)
  have n2 : ¬ hd (p * 32 + g) = -2 := fun z => absurd (z ▸ he) (by decide)
  have e3 : vp_in (nI p * 32 + nI g) 128 := by rw [sk_ix32]; exact vp_in_nI (by omega) (by decide)
  have e4 : hd (nI p * 32 + nI g).toNatClampNeg = hd (p * 32 + g) := by rw [sk_ix32, nI_clamp (by omega)]
  have e5 : fl (nI p * 32 + nI g).toNatClampNeg = fl (p * 32 + g) := by rw [sk_ix32, nI_clamp (by omega)]
  unfold wY_deliver_235
  refine br_f g0 ⟨e3, nm_r e4 ⟨e3, nm_r e5 (br_f n2 (br_f n1 ?_))⟩⟩
  unfold wY_deliver_302
  refine br_f n1 ?_
  exact sy_enter hp hg hd4 hnd e hs hsl n1 rfl h
/-! both: one signal acted on -/
theorem sk_I_ent {p g d : Nat} {f : Int32} {j : Nat} (hd4 : d < 4) (I : sk_Inv np nd es pg pn ss dp ql qs hd sl mk fm) : sk_Inv np nd (sk_lgN es) pg pn ss (upd dp p (nI (d + 1))) ql qs (sk_hdH hd j f) (upd sl p 0) (sk_mkH mk p g f) (upd fm (p * 4 + d) (mk p)) := by
  obtain ⟨i1, i2, i3, i4, i5, i6, i7, i8, i9, i10, i11⟩ := I
  exact ⟨i1, i2, sk_lgN_le i3, i4, i5, sk_DP_u i6 (by omega), i7, sk_HD_H i8, sk_SL_u i9 (by decide), sk_MK_H i10, sk_MK_u i11 (i10 p)⟩
theorem sk_act {p g : Nat} {s : Int32} (I : sk_Inv np nd es pg pn ss dp ql qs hd sl mk fm) (hp : p < 4) (h1 : 1 ≤ g) (hg : g < 32) : ∃ u v, sk_Rel np u v ∧ (∀ post : SX → Prop, post u → wpX_act post (nI np, nI nd, ls, et, nI es, co, ca, pc, ra, rb, sp, mk, dp, fc, fa, fb, fm, sl, st, lf, su, pg, ss, ql, qs, qr, hd, fl, ek, ep, ev, er) (nI p) (nI g) s) ∧ (∀ post : Int32 → SY → Prop, post 1 v → wY_deliver_235 post (nI p) (nI g) s (nI np) (nI nd) ls et (nI es) co ca pc ra rb sp mk dp sl lf su ql st pn ss qs qr hd fl fc fa fb fm ek ep ev er) := by
  have hs := sk_I_es I
  rcases I.2.2.2.2.2.2.2.1 (p * 32 + g) with he | he | he
  · exact ⟨(nI np, nI nd, ls, et + 1, nI (sk_lgN es), co, ca, pc, ra, rb, sp, mk, dp, fc, fa, fb, fm, sl, st, lf, su, pg, ss, ql, qs, qr, hd, fl, sk_lgA ek es 4, sk_lgA ep es (nI p), sk_lgA ev es (nI g), sk_lgA er es s), (nI np, nI nd, ls, et + 1, nI (sk_lgN es), co, ca, pc, ra, rb, sp, mk, dp, sl, lf, su, ql, st, pn, ss, qs, qr, hd, fl, fc, fa, fb, fm, sk_lgA ek es 4, sk_lgA ep es (nI p), sk_lgA ev es (nI g), sk_lgA er es s), sk_mk (sk_I_log I), fun post h => sx_act_m2 hp hg he hs h, fun post h => sy_act_m2 hp hg h1 he hs h⟩
  · by_cases g13 : g = 13
    · subst g13
      exact ⟨(nI np, nI nd, ls, et + 1, nI (sk_lgN es), co, ca, pc, ra, rb, sp, mk, dp, fc, fa, fb, fm, sl, st, lf, su, pg, ss, ql, qs, qr, hd, fl, sk_lgA ek es 4, sk_lgA ep es (nI p), sk_lgA ev es (nI 13), sk_lgA er es s), (nI np, nI nd, ls, et + 1, nI (sk_lgN es), co, ca, pc, ra, rb, sp, mk, dp, sl, lf, su, ql, st, pn, ss, qs, qr, hd, fl, fc, fa, fb, fm, sk_lgA ek es 4, sk_lgA ep es (nI p), sk_lgA ev es (nI 13), sk_lgA er es s), sk_mk (sk_I_log I), fun post h => sx_act_13 hp he hs h, fun post h => sy_act_13 hp he hs h⟩
    by_cases g14 : g = 14
    · subst g14
      exact ⟨(nI np, nI nd, ls, et + 1, nI (sk_lgN es), co, ca, pc, ra, rb, sp, mk, dp, fc, fa, fb, fm, sl, st, lf, su, pg, ss, ql, qs, qr, hd, fl, sk_lgA ek es 4, sk_lgA ep es (nI p), sk_lgA ev es (nI 14), sk_lgA er es s), (nI np, nI nd, ls, et + 1, nI (sk_lgN es), co, ca, pc, ra, rb, sp, mk, dp, sl, lf, su, ql, st, pn, ss, qs, qr, hd, fl, fc, fa, fb, fm, sk_lgA ek es 4, sk_lgA ep es (nI p), sk_lgA ev es (nI 14), sk_lgA er es s), sk_mk (sk_I_log I), fun post h => sx_act_14 hp he hs h, fun post h => sy_act_14 hp he hs h⟩
    by_cases g12 : g = 12
    · subst g12
      exact ⟨(nI np, nI nd, ls, et + 1, nI (sk_lgN es), co, ca, pc, ra, rb, sp, mk, dp, fc, fa, fb, fm, sl, upd st p 1, lf, su, pg, ss, ql, qs, qr, hd, fl, sk_lgA ek es 3, sk_lgA ep es (nI p), sk_lgA ev es (nI 12), sk_lgA er es s), (nI np, nI nd, ls, et + 1, nI (sk_lgN es), co, ca, pc, ra, rb, sp, mk, dp, sl, lf, su, ql, upd st p 1, pn, ss, qs, qr, hd, fl, fc, fa, fb, fm, sk_lgA ek es 3, sk_lgA ep es (nI p), sk_lgA ev es (nI 12), sk_lgA er es s), sk_mk (sk_I_log I), fun post h => sx_act_12 hp he hs h, fun post h => sy_act_12 hp he hs h⟩
    by_cases g15 : g = 15
    · subst g15
      exact ⟨(nI np, nI nd, ls, et + 1, nI (sk_lgN es), co, ca, pc, ra, rb, sp, mk, dp, fc, fa, fb, fm, sl, upd st p 1, lf, su, pg, ss, ql, qs, qr, hd, fl, sk_lgA ek es 3, sk_lgA ep es (nI p), sk_lgA ev es (nI 15), sk_lgA er es s), (nI np, nI nd, ls, et + 1, nI (sk_lgN es), co, ca, pc, ra, rb, sp, mk, dp, sl, lf, su, ql, upd st p 1, pn, ss, qs, qr, hd, fl, fc, fa, fb, fm, sk_lgA ek es 3, sk_lgA ep es (nI p), sk_lgA ev es (nI 15), sk_lgA er es s), sk_mk (sk_I_log I), fun post h => sx_act_15 hp he hs h, fun post h => sy_act_15 hp he hs h⟩
    exact ⟨(nI np, nI nd, ls, et + 1, nI (sk_lgN es), co, ca, pc, ra, rb, sp, mk, dp, fc, fa, fb, fm, upd sl p 0, upd st p 0, upd lf p 4, upd su p (nI g), upd pg p 0, sk_clr ss (p * 16) 16, upd ql p 0, qs, qr, hd, fl, sk_lgA ek es 2, sk_lgA ep es (nI p), sk_lgA ev es (nI g), sk_lgA er es s), (nI np, nI nd, ls, et + 1, nI (sk_lgN es), co, ca, pc, ra, rb, sp, mk, dp, upd sl p 0, upd lf p 4, upd su p (nI g), upd ql p 0, upd st p 0, sk_clr pn (p * 16) 16, sk_clr ss (p * 16) 16, qs, qr, hd, fl, fc, fa, fb, fm, sk_lgA ek es 2, sk_lgA ep es (nI p), sk_lgA ev es (nI g), sk_lgA er es s), sk_mk (sk_I_log (sk_I_die I)), fun post h => sx_act_die hp hg g12 g13 g14 g15 he hs h, fun post h => sy_act_die hp hg h1 g12 g13 g14 g15 he hs h⟩
  · obtain ⟨d, hd4, e⟩ := I.2.2.2.2.2.1 p hp
    by_cases hdn : d < nd
    · exact ⟨(nI np, nI nd, ls, et + 1, nI (sk_lgN es), co, ca, upd pc p (hd (p * 32 + g)), upd ra p (nI g), upd rb p s, upd sp p (sp p - 4), sk_mkH mk p g (fl (p * 32 + g)), upd dp p (nI (d + 1)), upd fc (p * 4 + d) (sk_itC sl pc p (fl (p * 32 + g))), upd fa (p * 4 + d) (sk_itA sl ra p (fl (p * 32 + g))), upd fb (p * 4 + d) (rb p), upd fm (p * 4 + d) (mk p), upd sl p 0, st, lf, su, pg, ss, ql, qs, qr, sk_hdH hd (p * 32 + g) (fl (p * 32 + g)), sk_flH fl (p * 32 + g) (fl (p * 32 + g)), sk_lgA ek es 1, sk_lgA ep es (nI p), sk_lgA ev es (nI g), sk_lgA er es s), (nI np, nI nd, ls, et + 1, nI (sk_lgN es), co, ca, upd pc p (hd (p * 32 + g)), upd ra p (nI g), upd rb p s, upd sp p (sp p - 4), sk_mkH mk p g (fl (p * 32 + g)), upd dp p (nI (d + 1)), upd sl p 0, lf, su, ql, st, pn, ss, qs, qr, sk_hdH hd (p * 32 + g) (fl (p * 32 + g)), sk_flH fl (p * 32 + g) (fl (p * 32 + g)), upd fc (p * 4 + d) (sk_itC sl pc p (fl (p * 32 + g))), upd fa (p * 4 + d) (sk_itA sl ra p (fl (p * 32 + g))), upd fb (p * 4 + d) (rb p), upd fm (p * 4 + d) (mk p), sk_lgA ek es 1, sk_lgA ep es (nI p), sk_lgA ev es (nI g), sk_lgA er es s), sk_mk (sk_I_ent (by have := sk_I_nd I; omega) I), fun post h => sx_act_ent hp hg he e (sk_I_nd I) hdn hs h, fun post h => sy_act_ent hp hg h1 he e (sk_I_nd I) hdn (I.2.2.2.2.2.2.2.2.1 p) hs h⟩
    · exact ⟨(nI np, nI nd, ls, et + 1, nI (sk_lgN es), co, ca, pc, ra, rb, sp, mk, dp, fc, fa, fb, fm, upd sl p 0, upd st p 0, upd lf p 4, upd su p 11, upd pg p 0, sk_clr ss (p * 16) 16, upd ql p 0, qs, qr, hd, fl, sk_lgA ek es 2, sk_lgA ep es (nI p), sk_lgA ev es 11, sk_lgA er es s), (nI np, nI nd, ls, et + 1, nI (sk_lgN es), co, ca, pc, ra, rb, sp, mk, dp, upd sl p 0, upd lf p 4, upd su p 11, upd ql p 0, upd st p 0, sk_clr pn (p * 16) 16, sk_clr ss (p * 16) 16, qs, qr, hd, fl, fc, fa, fb, fm, sk_lgA ek es 2, sk_lgA ep es (nI p), sk_lgA ev es 11, sk_lgA er es s), sk_mk (sk_I_log (sk_I_die I)), fun post h => sx_act_over hp hg he e hd4 (by omega) hs h, fun post h => sy_act_over hp hg h1 he e hd4 (by omega) hs h⟩
end
