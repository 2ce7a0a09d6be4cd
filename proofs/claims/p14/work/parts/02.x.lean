section
variable {np nd es : Nat} {ls et : Int32} {co ca pc ra rb sp mk dp fc fa fb fm sl st lf su pg pn ss ql qs qr hd fl ek ep ev er : Nat → Int32}
theorem sx_log {post : St2 → Prop} {k p v s : Int32} (hs : es ≤ 128) (h : post (nI np, nI nd, ls, et + 1, nI (sk_lgN es), co, ca, pc, ra, rb, sp, mk, dp, fc, fa, fb, fm, sl, st, lf, su, pg, ss, ql, qs, qr, hd, fl, sk_lgA ek es k, sk_lgA ep es p, sk_lgA ev es v, sk_lgA er es s)) : wpX_logEvent post (nI np, nI nd, ls, et, nI es, co, ca, pc, ra, rb, sp, mk, dp, fc, fa, fb, fm, sl, st, lf, su, pg, ss, ql, qs, qr, hd, fl, ek, ep, ev, er) k p v s := by
  by_cases z : es < 128
  · have e1 : nI es < (128 : Int32) := nI_lt (b := 128) z (by decide)
    have e2 : vp_in (nI es) 128 := vp_in_nI z (by decide)
    have e3 : (nI es).toNatClampNeg = es := nI_clamp (by omega)
    simp only [sk_lgN, sk_lgA, if_pos z] at h
    simp only [wpX_logEvent, e1, e2, e3, nI_1, true_implies, false_implies, not_true_eq_false, not_false_eq_true, and_true, true_and, forall_eq, implies_true]
    exact h
  · have e1 : ¬ nI es < (128 : Int32) := nI_nlt (b := 128) (by omega) (by omega)
    simp only [sk_lgN, sk_lgA, if_neg z] at h
    simp only [wpX_logEvent, e1, true_implies, false_implies, not_true_eq_false, not_false_eq_true, and_true, true_and, forall_eq, implies_true]
    exact h
theorem sx_serial {post : Int32 → St2 → Prop} (h : post (ls + 1) (nI np, nI nd, ls + 1, et, nI es, co, ca, pc, ra, rb, sp, mk, dp, fc, fa, fb, fm, sl, st, lf, su, pg, ss, ql, qs, qr, hd, fl, ek, ep, ev, er)) : wpX_issueSerial post (nI np, nI nd, ls, et, nI es, co, ca, pc, ra, rb, sp, mk, dp, fc, fa, fb, fm, sl, st, lf, su, pg, ss, ql, qs, qr, hd, fl, ek, ep, ev, er) := by
  simp only [wpX_issueSerial, true_implies, false_implies, not_true_eq_false, not_false_eq_true, and_true, true_and, forall_eq, implies_true]
  exact h
theorem sx_drop {post : St2 → Prop} {p s : Nat} (hp : p < 4) (hs : s < 16) (h : post (nI np, nI nd, ls, et, nI es, co, ca, pc, ra, rb, sp, mk, dp, fc, fa, fb, fm, sl, st, lf, su, upd pg p (pg p &&& (((1 : Int32) <<< (nI s &&& 31)) ^^^ (-1))), upd ss (p * 16 + s) 0, ql, qs, qr, hd, fl, ek, ep, ev, er)) : wpX_dropPending post (nI np, nI nd, ls, et, nI es, co, ca, pc, ra, rb, sp, mk, dp, fc, fa, fb, fm, sl, st, lf, su, pg, ss, ql, qs, qr, hd, fl, ek, ep, ev, er) (nI p) (nI s) := by
  have e1 : vp_in (nI p) 4 := vp_in_nI hp (by decide)
  have e2 : (nI p).toNatClampNeg = p := nI_clamp (by omega)
  have e3 : vp_in (nI (p * 16 + s)) 64 := vp_in_nI (by omega) (by decide)
  have e4 : (nI (p * 16 + s)).toNatClampNeg = p * 16 + s := nI_clamp (by omega)
  simp only [wpX_dropPending, e1, e2, sk_ix16, e3, e4, true_implies, false_implies, not_true_eq_false, not_false_eq_true, and_true, true_and, forall_eq, implies_true]
  exact h
theorem sx_mark1 {post : Int32 → St2 → Prop} {p s : Nat} (hp : p < 4) (hs : s < 16) (hz : pg p &&& ((1 : Int32) <<< (nI s &&& 31)) = 0) (h : post (ls + 1) (nI np, nI nd, ls + 1, et, nI es, co, ca, pc, ra, rb, sp, mk, dp, fc, fa, fb, fm, sl, st, lf, su, upd pg p (pg p ||| ((1 : Int32) <<< (nI s &&& 31))), upd ss (p * 16 + s) (ls + 1), ql, qs, qr, hd, fl, ek, ep, ev, er)) : wpX_markPending post (nI np, nI nd, ls, et, nI es, co, ca, pc, ra, rb, sp, mk, dp, fc, fa, fb, fm, sl, st, lf, su, pg, ss, ql, qs, qr, hd, fl, ek, ep, ev, er) (nI p) (nI s) := by
  have e1 : vp_in (nI p) 4 := vp_in_nI hp (by decide)
  have e2 : (nI p).toNatClampNeg = p := nI_clamp (by omega)
  have e3 : vp_in (nI (p * 16 + s)) 64 := vp_in_nI (by omega) (by decide)
  have e4 : (nI (p * 16 + s)).toNatClampNeg = p * 16 + s := nI_clamp (by omega)
  simp only [wpX_markPending, e1, e2, hz, true_implies, false_implies, not_true_eq_false, not_false_eq_true, and_true, true_and, forall_eq, implies_true]
  refine sx_serial ?_
  simp only [e1, e2, sk_ix16, e3, e4, true_implies, false_implies, not_true_eq_false, not_false_eq_true, and_true, true_and, forall_eq, implies_true]
  exact h
theorem sx_mark0 {post : Int32 → St2 → Prop} {p s : Nat} (hp : p < 4) (hz : ¬ pg p &&& ((1 : Int32) <<< (nI s &&& 31)) = 0) (h : post 0 (nI np, nI nd, ls, et, nI es, co, ca, pc, ra, rb, sp, mk, dp, fc, fa, fb, fm, sl, st, lf, su, pg, ss, ql, qs, qr, hd, fl, ek, ep, ev, er)) : wpX_markPending post (nI np, nI nd, ls, et, nI es, co, ca, pc, ra, rb, sp, mk, dp, fc, fa, fb, fm, sl, st, lf, su, pg, ss, ql, qs, qr, hd, fl, ek, ep, ev, er) (nI p) (nI s) := by
  have e1 : vp_in (nI p) 4 := vp_in_nI hp (by decide)
  have e2 : (nI p).toNatClampNeg = p := nI_clamp (by omega)
  simp only [wpX_markPending, e1, e2, hz, true_implies, false_implies, not_true_eq_false, not_false_eq_true, and_true, true_and, forall_eq, implies_true]
  exact h
theorem sx_enq {post : Int32 → St2 → Prop} {p l s : Nat} (hp : p < 4) (hl : l < 8) (e : ql p = nI l) (h : post (ls + 1) (nI np, nI nd, ls + 1, et, nI es, co, ca, pc, ra, rb, sp, mk, dp, fc, fa, fb, fm, sl, st, lf, su, pg, ss, upd ql p (nI (l + 1)), upd qs (p * 8 + l) (nI s), upd qr (p * 8 + l) (ls + 1), hd, fl, ek, ep, ev, er)) : wpX_enqueue post (nI np, nI nd, ls, et, nI es, co, ca, pc, ra, rb, sp, mk, dp, fc, fa, fb, fm, sl, st, lf, su, pg, ss, ql, qs, qr, hd, fl, ek, ep, ev, er) (nI p) (nI s) := by
  have e1 : vp_in (nI p) 4 := vp_in_nI hp (by decide)
  have e2 : (nI p).toNatClampNeg = p := nI_clamp (by omega)
  have e3 : vp_in (nI (p * 8 + l)) 32 := vp_in_nI (by omega) (by decide)
  have e4 : (nI (p * 8 + l)).toNatClampNeg = p * 8 + l := nI_clamp (by omega)
  simp only [wpX_enqueue]
  refine sx_serial ?_
  simp only [e1, e2, e, sk_ix8, e3, e4, nI_1, true_implies, false_implies, not_true_eq_false, not_false_eq_true, and_true, true_and, forall_eq, implies_true]
  exact h
theorem sx_die_l {post : St2 → Prop} {p : Nat} (hp : p < 4) (h : post (nI np, nI nd, ls, et, nI es, co, ca, pc, ra, rb, sp, mk, dp, fc, fa, fb, fm, upd sl p 0, upd st p 0, lf, su, pg, sk_clr ss (p * 16) 16, upd ql p 0, qs, qr, hd, fl, ek, ep, ev, er)) : ∀ d i, i + d = 16 → wX_die_24 post (nI p) (nI np) (nI nd) ls et (nI es) (d + 1) (nI i) co ca pc ra rb sp mk dp fc fa fb fm sl st lf su pg (sk_clr ss (p * 16) i) ql qs qr hd fl ek ep ev er := by
  have e1 : vp_in (nI p) 4 := vp_in_nI hp (by decide)
  have e2 : (nI p).toNatClampNeg = p := nI_clamp (by omega)
  intro d
  induction d with
  | zero =>
    intro i hi
    have hi' : i = 16 := by omega
    subst hi'
    have z : (16 : Int32) ≤ nI 16 := by decide
    rw [wX_die_24]
    simp only [z, e1, e2, sk_nb0, true_implies, false_implies, not_true_eq_false, not_false_eq_true, and_true, true_and, forall_eq, implies_true]
    exact h
  | succ d ih =>
    intro i hi
    have z : ¬ (16 : Int32) ≤ nI i := nI_ge (b := 16) (by omega) (by decide)
    have e3 : vp_in (nI (p * 16 + i)) 64 := vp_in_nI (by omega) (by decide)
    have e4 : (nI (p * 16 + i)).toNatClampNeg = p * 16 + i := nI_clamp (by omega)
    rw [wX_die_24]
    simp only [z, sk_ix16, e3, e4, nI_1, true_implies, false_implies, not_true_eq_false, not_false_eq_true, and_true, true_and, forall_eq, implies_true]
    exact ih (i + 1) (by omega)
theorem sx_die {post : St2 → Prop} {p : Nat} {how fs : Int32} (hp : p < 4) (h : post (nI np, nI nd, ls, et, nI es, co, ca, pc, ra, rb, sp, mk, dp, fc, fa, fb, fm, upd sl p 0, upd st p 0, upd lf p how, upd su p fs, upd pg p 0, sk_clr ss (p * 16) 16, upd ql p 0, qs, qr, hd, fl, ek, ep, ev, er)) : wpX_die post (nI np, nI nd, ls, et, nI es, co, ca, pc, ra, rb, sp, mk, dp, fc, fa, fb, fm, sl, st, lf, su, pg, ss, ql, qs, qr, hd, fl, ek, ep, ev, er) (nI p) how fs := by
  have e1 : vp_in (nI p) 4 := vp_in_nI hp (by decide)
  have e2 : (nI p).toNatClampNeg = p := nI_clamp (by omega)
  simp only [wpX_die, e1, e2, true_implies, false_implies, not_true_eq_false, not_false_eq_true, and_true, true_and, forall_eq, implies_true]
  exact ⟨17, sx_die_l hp h 16 0 rfl⟩
theorem sx_term {post : St2 → Prop} {p : Nat} {sig ser : Int32} (hp : p < 4) (hs : es ≤ 128) (h : post (nI np, nI nd, ls, et + 1, nI (sk_lgN es), co, ca, pc, ra, rb, sp, mk, dp, fc, fa, fb, fm, upd sl p 0, upd st p 0, upd lf p 4, upd su p sig, upd pg p 0, sk_clr ss (p * 16) 16, upd ql p 0, qs, qr, hd, fl, sk_lgA ek es 2, sk_lgA ep es (nI p), sk_lgA ev es sig, sk_lgA er es ser)) : wpX_terminate post (nI np, nI nd, ls, et, nI es, co, ca, pc, ra, rb, sp, mk, dp, fc, fa, fb, fm, sl, st, lf, su, pg, ss, ql, qs, qr, hd, fl, ek, ep, ev, er) (nI p) sig ser := by
  unfold wpX_terminate
  refine sx_die hp ?_
  refine sx_log hs ?_
  exact h
theorem sx_opp12 {post : St2 → Prop} {p : Nat} (hp : p < 4) (h : post (nI np, nI nd, ls, et, nI es, co, ca, pc, ra, rb, sp, mk, dp, fc, fa, fb, fm, sl, st, lf, su, upd pg p (pg p &&& (((1 : Int32) <<< (nI 14 &&& 31)) ^^^ (-1))), upd ss (p * 16 + 14) 0, ql, qs, qr, hd, fl, ek, ep, ev, er)) : wpX_dropOpposites post (nI np, nI nd, ls, et, nI es, co, ca, pc, ra, rb, sp, mk, dp, fc, fa, fb, fm, sl, st, lf, su, pg, ss, ql, qs, qr, hd, fl, ek, ep, ev, er) (nI p) 12 := by
  unfold wpX_dropOpposites
  refine br_t rfl ?_
  unfold wX_dropOpposites_12
  refine sx_drop (s := 14) hp (by decide) ?_
  exact br_f (by decide) h
theorem sx_opp15 {post : St2 → Prop} {p : Nat} (hp : p < 4) (h : post (nI np, nI nd, ls, et, nI es, co, ca, pc, ra, rb, sp, mk, dp, fc, fa, fb, fm, sl, st, lf, su, upd pg p (pg p &&& (((1 : Int32) <<< (nI 14 &&& 31)) ^^^ (-1))), upd ss (p * 16 + 14) 0, ql, qs, qr, hd, fl, ek, ep, ev, er)) : wpX_dropOpposites post (nI np, nI nd, ls, et, nI es, co, ca, pc, ra, rb, sp, mk, dp, fc, fa, fb, fm, sl, st, lf, su, pg, ss, ql, qs, qr, hd, fl, ek, ep, ev, er) (nI p) 15 := by
  unfold wpX_dropOpposites
  refine br_f (by decide) (br_t rfl ?_)
  unfold wX_dropOpposites_12
  refine sx_drop (s := 14) hp (by decide) ?_
  exact br_f (by decide) h
theorem sx_oppN {post : St2 → Prop} {p g : Nat} (hg : g < 32) (h12 : g ≠ 12) (h14 : g ≠ 14) (h15 : g ≠ 15) (h : post (nI np, nI nd, ls, et, nI es, co, ca, pc, ra, rb, sp, mk, dp, fc, fa, fb, fm, sl, st, lf, su, pg, ss, ql, qs, qr, hd, fl, ek, ep, ev, er)) : wpX_dropOpposites post (nI np, nI nd, ls, et, nI es, co, ca, pc, ra, rb, sp, mk, dp, fc, fa, fb, fm, sl, st, lf, su, pg, ss, ql, qs, qr, hd, fl, ek, ep, ev, er) (nI p) (nI g) := by
  have a1 : ¬ nI g = 12 := fun z => h12 ((nI_eq (b := 12) (by omega) (by decide)).mp z)
  have a2 : ¬ nI g = 14 := fun z => h14 ((nI_eq (b := 14) (by omega) (by decide)).mp z)
  have a3 : ¬ nI g = 15 := fun z => h15 ((nI_eq (b := 15) (by omega) (by decide)).mp z)
  unfold wpX_dropOpposites
  refine br_f a1 (br_f a3 ?_)
  exact br_f a2 h
theorem sx_remove_l {post : St2 → Prop} {p l j : Nat} (hp : p < 4) (hl : l + 1 ≤ 8) (h : post (nI np, nI nd, ls, et, nI es, co, ca, pc, ra, rb, sp, mk, dp, fc, fa, fb, fm, sl, st, lf, su, pg, ss, upd ql p (nI l), sk_shf qs (p * 8 + j) (l - j), sk_shf qr (p * 8 + j) (l - j), hd, fl, ek, ep, ev, er)) : ∀ d i, j + i + d = l → wX_removeEntry_18 post (nI p) (nI (p * 8)) (nI l) (nI np) (nI nd) ls et (nI es) (d + 1) (nI (j + i)) co ca pc ra rb sp mk dp fc fa fb fm sl st lf su pg ss ql (sk_shf qs (p * 8 + j) i) (sk_shf qr (p * 8 + j) i) hd fl ek ep ev er := by
  have e1 : vp_in (nI p) 4 := vp_in_nI hp (by decide)
  have e2 : (nI p).toNatClampNeg = p := nI_clamp (by omega)
  intro d
  induction d with
  | zero =>
    intro i hi
    have hi' : i = l - j := by omega
    subst hi'
    have z : nI l ≤ nI (j + (l - j)) := nI_le (by omega) (by omega)
    rw [wX_removeEntry_18]
    simp only [z, e1, e2, true_implies, false_implies, not_true_eq_false, not_false_eq_true, and_true, true_and, forall_eq, implies_true]
    exact h
  | succ d ih =>
    intro i hi
    have z : ¬ nI l ≤ nI (j + i) := nI_ge (by omega) (by omega)
    have e3 : vp_in (nI (p * 8 + j + i)) 32 := vp_in_nI (by omega) (by decide)
    have e4 : (nI (p * 8 + j + i)).toNatClampNeg = p * 8 + j + i := nI_clamp (by omega)
    have e5 : vp_in (nI (p * 8 + j + i + 1)) 32 := vp_in_nI (by omega) (by decide)
    have e6 : (nI (p * 8 + j + i + 1)).toNatClampNeg = p * 8 + j + i + 1 := nI_clamp (by omega)
    have e7 : nI (p * 8) + nI (j + i) = nI (p * 8 + j + i) := by rw [nI_add, Nat.add_assoc]
    rw [wX_removeEntry_18]
    simp only [z, e7, nI_1, e3, e4, e5, e6, true_implies, false_implies, not_true_eq_false, not_false_eq_true, and_true, true_and, forall_eq, implies_true]
    exact ih (i + 1) (by omega)
theorem sx_remove {post : St2 → Prop} {p l j : Nat} (hp : p < 4) (hl : l + 1 ≤ 8) (e : ql p = nI (l + 1)) (hj : j ≤ l) (h : post (nI np, nI nd, ls, et, nI es, co, ca, pc, ra, rb, sp, mk, dp, fc, fa, fb, fm, sl, st, lf, su, pg, ss, upd ql p (nI l), sk_shf qs (p * 8 + j) (l - j), sk_shf qr (p * 8 + j) (l - j), hd, fl, ek, ep, ev, er)) : wpX_removeEntry post (nI np, nI nd, ls, et, nI es, co, ca, pc, ra, rb, sp, mk, dp, fc, fa, fb, fm, sl, st, lf, su, pg, ss, ql, qs, qr, hd, fl, ek, ep, ev, er) (nI p) (nI j) := by
  have e1 : vp_in (nI p) 4 := vp_in_nI hp (by decide)
  have e2 : (nI p).toNatClampNeg = p := nI_clamp (by omega)
  have e3 : nI p * 8 = nI (p * 8) := pk_mul p 8
  simp only [wpX_removeEntry, e1, e2, e, e3, nI_pred, true_implies, false_implies, not_true_eq_false, not_false_eq_true, and_true, true_and, forall_eq, implies_true]
  exact ⟨l - j + 1, sx_remove_l hp hl h (l - j) 0 (by omega)⟩
/-- a pending word joined with the queue's first n signals -/
def sk_orq (m : Int32) (qs : Nat → Int32) (b : Nat) : Nat → Int32
  | 0 => m
  | n + 1 => sk_orq m qs b n ||| ((1 : Int32) <<< (qs (b + n) &&& 31))
theorem sx_allp_l {post : Int32 → Prop} {p l : Nat} (hp : p < 4) (hl : l ≤ 8) (e : ql p = nI l) (m : Int32) (h : post (sk_orq m qs (p * 8) l)) : ∀ d i, i + d = l → wX_allPending_9 post (nI p) (nI np) (nI nd) ls et (nI es) co ca pc ra rb sp mk dp fc fa fb fm sl st lf su pg ss ql qs qr hd fl ek ep ev er (d + 1) (sk_orq m qs (p * 8) i) (nI i) := by
  have e1 : vp_in (nI p) 4 := vp_in_nI hp (by decide)
  have e2 : (nI p).toNatClampNeg = p := nI_clamp (by omega)
  intro d
  induction d with
  | zero =>
    intro i hi
    have hi' : i = l := by omega
    subst hi'
    have z : nI i ≤ nI i := nI_le (by omega) (by omega)
    rw [wX_allPending_9]
    simp only [e1, e2, e, z, true_implies, false_implies, not_true_eq_false, not_false_eq_true, and_true, true_and, forall_eq, implies_true]
    exact h
  | succ d ih =>
    intro i hi
    have z : ¬ nI l ≤ nI i := nI_ge (by omega) (by omega)
    have e3 : vp_in (nI (p * 8 + i)) 32 := vp_in_nI (by omega) (by decide)
    have e4 : (nI (p * 8 + i)).toNatClampNeg = p * 8 + i := nI_clamp (by omega)
    rw [wX_allPending_9]
    simp only [e1, e2, e, z, sk_ix8, e3, e4, nI_1, true_implies, false_implies, not_true_eq_false, not_false_eq_true, and_true, true_and, forall_eq, implies_true]
    exact ih (i + 1) (by omega)
theorem sx_allp {post : Int32 → Prop} {p l : Nat} (hp : p < 4) (hl : l ≤ 8) (e : ql p = nI l) (h : post (sk_orq (pg p) qs (p * 8) l)) : wpX_allPending post (nI np, nI nd, ls, et, nI es, co, ca, pc, ra, rb, sp, mk, dp, fc, fa, fb, fm, sl, st, lf, su, pg, ss, ql, qs, qr, hd, fl, ek, ep, ev, er) (nI p) := by
  have e1 : vp_in (nI p) 4 := vp_in_nI hp (by decide)
  have e2 : (nI p).toNatClampNeg = p := nI_clamp (by omega)
  simp only [wpX_allPending, e1, e2, true_implies, false_implies, not_true_eq_false, not_false_eq_true, and_true, true_and, forall_eq, implies_true]
  exact ⟨l + 1, sx_allp_l hp hl e (pg p) h l 0 (by omega)⟩
theorem sx_low_l {post : Int32 → Prop} {x : Int32} {g : Nat} (hg : g < 16) (hx : ¬ x &&& ((1 : Int32) <<< (nI g &&& 31)) = 0) (h : post (nI g)) : ∀ d i, i + d = g → (∀ j, i ≤ j → j < g → x &&& ((1 : Int32) <<< (nI j &&& 31)) = 0) → wX_lowestDeliverable_18 post x (nI np) (nI nd) ls et (nI es) co ca pc ra rb sp mk dp fc fa fb fm sl st lf su pg ss ql qs qr hd fl ek ep ev er (d + 1) (nI i) := by
  intro d
  induction d with
  | zero =>
    intro i hi _
    have hi' : i = g := by omega
    subst hi'
    have z : ¬ (16 : Int32) ≤ nI i := nI_ge (b := 16) (by omega) (by decide)
    rw [wX_lowestDeliverable_18]
    exact br_f z (br_f hx h)
  | succ d ih =>
    intro i hi hj
    have z : ¬ (16 : Int32) ≤ nI i := nI_ge (b := 16) (by omega) (by decide)
    rw [wX_lowestDeliverable_18]
    refine br_f z (br_t (hj i (by omega) (by omega)) (nm_r (nI_1 i) ?_))
    exact ih (i + 1) (by omega) fun j h1 h2 => hj j (by omega) h2
theorem sx_low0_l {post : Int32 → Prop} {x : Int32} (h : post 0) : ∀ d i, i + d = 16 → (∀ j, i ≤ j → j < 16 → x &&& ((1 : Int32) <<< (nI j &&& 31)) = 0) → wX_lowestDeliverable_18 post x (nI np) (nI nd) ls et (nI es) co ca pc ra rb sp mk dp fc fa fb fm sl st lf su pg ss ql qs qr hd fl ek ep ev er (d + 1) (nI i) := by
  intro d
  induction d with
  | zero =>
    intro i hi _
    have hi' : i = 16 := by omega
    subst hi'
    rw [wX_lowestDeliverable_18]
    exact br_t (by decide) h
  | succ d ih =>
    intro i hi hj
    have z : ¬ (16 : Int32) ≤ nI i := nI_ge (b := 16) (by omega) (by decide)
    rw [wX_lowestDeliverable_18]
    refine br_f z (br_t (hj i (by omega) (by omega)) (nm_r (nI_1 i) ?_))
    exact ih (i + 1) (by omega) fun j h1 h2 => hj j (by omega) h2
theorem sx_low {post : Int32 → Prop} {p g : Nat} (hp : p < 4) (h1 : 1 ≤ g) (hg : g < 16) (hx : ¬ (pg p &&& (mk p ^^^ (-1))) &&& ((1 : Int32) <<< (nI g &&& 31)) = 0) (hj : ∀ j, 1 ≤ j → j < g → (pg p &&& (mk p ^^^ (-1))) &&& ((1 : Int32) <<< (nI j &&& 31)) = 0) (h : post (nI g)) : wpX_lowestDeliverable post (nI np, nI nd, ls, et, nI es, co, ca, pc, ra, rb, sp, mk, dp, fc, fa, fb, fm, sl, st, lf, su, pg, ss, ql, qs, qr, hd, fl, ek, ep, ev, er) (nI p) := by
  have e1 : vp_in (nI p) 4 := vp_in_nI hp (by decide)
  have e2 : (nI p).toNatClampNeg = p := nI_clamp (by omega)
  simp only [wpX_lowestDeliverable, e1, e2, true_implies, false_implies, not_true_eq_false, not_false_eq_true, and_true, true_and, forall_eq, implies_true]
  exact ⟨g - 1 + 1, sx_low_l hg hx h (g - 1) 1 (by omega) hj⟩
theorem sx_low0 {post : Int32 → Prop} {p : Nat} (hp : p < 4) (hj : ∀ j, 1 ≤ j → j < 16 → (pg p &&& (mk p ^^^ (-1))) &&& ((1 : Int32) <<< (nI j &&& 31)) = 0) (h : post 0) : wpX_lowestDeliverable post (nI np, nI nd, ls, et, nI es, co, ca, pc, ra, rb, sp, mk, dp, fc, fa, fb, fm, sl, st, lf, su, pg, ss, ql, qs, qr, hd, fl, ek, ep, ev, er) (nI p) := by
  have e1 : vp_in (nI p) 4 := vp_in_nI hp (by decide)
  have e2 : (nI p).toNatClampNeg = p := nI_clamp (by omega)
  simp only [wpX_lowestDeliverable, e1, e2, true_implies, false_implies, not_true_eq_false, not_false_eq_true, and_true, true_and, forall_eq, implies_true]
  exact ⟨16, sx_low0_l h 15 1 (by omega) hj⟩
theorem sx_ear_l {post : Int32 → Prop} {p l g : Nat} (hp : p < 4) (hl : l ≤ 8) (e : ql p = nI l) (hg : g < l) (hx : mk p &&& ((1 : Int32) <<< (qs (p * 8 + g) &&& 31)) = 0) (h : post (nI g)) : ∀ d i, i + d = g → (∀ j, i ≤ j → j < g → ¬ mk p &&& ((1 : Int32) <<< (qs (p * 8 + j) &&& 31)) = 0) → wX_earliestDeliverable_2 post (nI p) (nI np) (nI nd) ls et (nI es) co ca pc ra rb sp mk dp fc fa fb fm sl st lf su pg ss ql qs qr hd fl ek ep ev er (d + 1) (nI i) := by
  have e1 : vp_in (nI p) 4 := vp_in_nI hp (by decide)
  have e2 : (nI p).toNatClampNeg = p := nI_clamp (by omega)
  intro d
  induction d with
  | zero =>
    intro i hi _
    have hi' : i = g := by omega
    subst hi'
    have z : ¬ nI l ≤ nI i := nI_ge (by omega) (by omega)
    have e3 : vp_in (nI (p * 8 + i)) 32 := vp_in_nI (by omega) (by decide)
    have e4 : (nI (p * 8 + i)).toNatClampNeg = p * 8 + i := nI_clamp (by omega)
    rw [wX_earliestDeliverable_2]
    simp only [e1, e2, e, z, sk_ix8, e3, e4, hx, true_implies, false_implies, not_true_eq_false, not_false_eq_true, and_true, true_and, forall_eq, implies_true]
    exact h
  | succ d ih =>
    intro i hi hj
    have z : ¬ nI l ≤ nI i := nI_ge (by omega) (by omega)
    have e3 : vp_in (nI (p * 8 + i)) 32 := vp_in_nI (by omega) (by decide)
    have e4 : (nI (p * 8 + i)).toNatClampNeg = p * 8 + i := nI_clamp (by omega)
    have e5 := hj i (by omega) (by omega)
    rw [wX_earliestDeliverable_2]
    simp only [e1, e2, e, z, sk_ix8, e3, e4, e5, nI_1, true_implies, false_implies, not_true_eq_false, not_false_eq_true, and_true, true_and, forall_eq, implies_true]
    exact ih (i + 1) (by omega) fun j h1 h2 => hj j (by omega) h2
theorem sx_ear0_l {post : Int32 → Prop} {p l : Nat} (hp : p < 4) (hl : l ≤ 8) (e : ql p = nI l) (h : post (-1)) : ∀ d i, i + d = l → (∀ j, i ≤ j → j < l → ¬ mk p &&& ((1 : Int32) <<< (qs (p * 8 + j) &&& 31)) = 0) → wX_earliestDeliverable_2 post (nI p) (nI np) (nI nd) ls et (nI es) co ca pc ra rb sp mk dp fc fa fb fm sl st lf su pg ss ql qs qr hd fl ek ep ev er (d + 1) (nI i) := by
  have e1 : vp_in (nI p) 4 := vp_in_nI hp (by decide)
  have e2 : (nI p).toNatClampNeg = p := nI_clamp (by omega)
  intro d
  induction d with
  | zero =>
    intro i hi _
    have hi' : i = l := by omega
    subst hi'
    have z : nI i ≤ nI i := nI_le (by omega) (by omega)
    rw [wX_earliestDeliverable_2]
    simp only [e1, e2, e, z, true_implies, false_implies, not_true_eq_false, not_false_eq_true, and_true, true_and, forall_eq, implies_true]
    exact h
  | succ d ih =>
    intro i hi hj
    have z : ¬ nI l ≤ nI i := nI_ge (by omega) (by omega)
    have e3 : vp_in (nI (p * 8 + i)) 32 := vp_in_nI (by omega) (by decide)
    have e4 : (nI (p * 8 + i)).toNatClampNeg = p * 8 + i := nI_clamp (by omega)
    have e5 := hj i (by omega) (by omega)
    rw [wX_earliestDeliverable_2]
    simp only [e1, e2, e, z, sk_ix8, e3, e4, e5, nI_1, true_implies, false_implies, not_true_eq_false, not_false_eq_true, and_true, true_and, forall_eq, implies_true]
    exact ih (i + 1) (by omega) fun j h1 h2 => hj j (by omega) h2
end
