section
variable {np nd es : Nat} {ls et : Int32} {co ca pc ra rb sp mk dp fc fa fb fm sl st lf su pg pn ss ql qs qr hd fl ek ep ev er : Nat → Int32}
theorem sy_log {post : SY → Prop} {k p v s : Int32} (hs : es ≤ 128) (h : post (nI np, nI nd, ls, et + 1, nI (sk_lgN es), co, ca, pc, ra, rb, sp, mk, dp, sl, lf, su, ql, st, pn, ss, qs, qr, hd, fl, fc, fa, fb, fm, sk_lgA ek es k, sk_lgA ep es p, sk_lgA ev es v, sk_lgA er es s)) : wpY_log post (nI np, nI nd, ls, et, nI es, co, ca, pc, ra, rb, sp, mk, dp, sl, lf, su, ql, st, pn, ss, qs, qr, hd, fl, fc, fa, fb, fm, ek, ep, ev, er) k p v s := by
  by_cases z : es < 128
  · have e1 : ¬ (128 : Int32) ≤ nI es := nI_ge (b := 128) z (by decide)
    have e2 : vp_in (nI es) 128 := vp_in_nI z (by decide)
    have e3 : (nI es).toNatClampNeg = es := nI_clamp (by omega)
    simp only [sk_lgN, sk_lgA, if_pos z] at h
    simp only [wpY_log, e1, e2, e3, nI_1, true_implies, false_implies, not_true_eq_false, not_false_eq_true, and_true, true_and, forall_eq, implies_true]
    exact h
  · have e1 : (128 : Int32) ≤ nI es := nI_le (a := 128) (by omega) (by omega)
    simp only [sk_lgN, sk_lgA, if_neg z] at h
    simp only [wpY_log, e1, true_implies, false_implies, not_true_eq_false, not_false_eq_true, and_true, true_and, forall_eq, implies_true]
    exact h
theorem sy_serial {post : Int32 → SY → Prop} (h : post (ls + 1) (nI np, nI nd, ls + 1, et, nI es, co, ca, pc, ra, rb, sp, mk, dp, sl, lf, su, ql, st, pn, ss, qs, qr, hd, fl, fc, fa, fb, fm, ek, ep, ev, er)) : wpY_newSerial post (nI np, nI nd, ls, et, nI es, co, ca, pc, ra, rb, sp, mk, dp, sl, lf, su, ql, st, pn, ss, qs, qr, hd, fl, fc, fa, fb, fm, ek, ep, ev, er) := by
  simp only [wpY_newSerial, true_implies, false_implies, not_true_eq_false, not_false_eq_true, and_true, true_and, forall_eq, implies_true]
  exact h
theorem sy_drop {post : SY → Prop} {p s : Nat} (hp : p < 4) (hs : s < 16) (h : post (nI np, nI nd, ls, et, nI es, co, ca, pc, ra, rb, sp, mk, dp, sl, lf, su, ql, st, upd pn (p * 16 + s) 0, upd ss (p * 16 + s) 0, qs, qr, hd, fl, fc, fa, fb, fm, ek, ep, ev, er)) : wpY_drop post (nI np, nI nd, ls, et, nI es, co, ca, pc, ra, rb, sp, mk, dp, sl, lf, su, ql, st, pn, ss, qs, qr, hd, fl, fc, fa, fb, fm, ek, ep, ev, er) (nI p) (nI s) := by
  have e3 : vp_in (nI (p * 16 + s)) 64 := vp_in_nI (by omega) (by decide)
  have e4 : (nI (p * 16 + s)).toNatClampNeg = p * 16 + s := nI_clamp (by omega)
  simp only [wpY_drop, sk_ix16, e3, e4, sk_nb0, true_implies, false_implies, not_true_eq_false, not_false_eq_true, and_true, true_and, forall_eq, implies_true]
  exact h
theorem sy_die_l {post : SY → Prop} {p : Nat} (hp : p < 4) (h : post (nI np, nI nd, ls, et, nI es, co, ca, pc, ra, rb, sp, mk, dp, upd sl p 0, lf, su, upd ql p 0, upd st p 0, sk_clr pn (p * 16) 16, sk_clr ss (p * 16) 16, qs, qr, hd, fl, fc, fa, fb, fm, ek, ep, ev, er)) : ∀ d i, i + d = 16 → wY_die_17 post (nI p) (nI np) (nI nd) ls et (nI es) (d + 1) (nI i) co ca pc ra rb sp mk dp sl lf su ql st (sk_clr pn (p * 16) i) (sk_clr ss (p * 16) i) qs qr hd fl fc fa fb fm ek ep ev er := by
  have e1 : vp_in (nI p) 4 := vp_in_nI hp (by decide)
  have e2 : (nI p).toNatClampNeg = p := nI_clamp (by omega)
  intro d
  induction d with
  | zero =>
    intro i hi
    have hi' : i = 16 := by omega
    subst hi'
    have z : (16 : Int32) ≤ nI 16 := by decide
    rw [wY_die_17]
    simp only [z, e1, e2, sk_nb0, true_implies, false_implies, not_true_eq_false, not_false_eq_true, and_true, true_and, forall_eq, implies_true]
    exact h
  | succ d ih =>
    intro i hi
    have z : ¬ (16 : Int32) ≤ nI i := nI_ge (b := 16) (by omega) (by decide)
    have e3 : vp_in (nI (p * 16 + i)) 64 := vp_in_nI (by omega) (by decide)
    have e4 : (nI (p * 16 + i)).toNatClampNeg = p * 16 + i := nI_clamp (by omega)
    rw [wY_die_17]
    simp only [z, sk_ix16, e3, e4, nI_1, sk_nb0, true_implies, false_implies, not_true_eq_false, not_false_eq_true, and_true, true_and, forall_eq, implies_true]
    exact ih (i + 1) (by omega)
theorem sy_die {post : SY → Prop} {p : Nat} {how fs : Int32} (hp : p < 4) (h : post (nI np, nI nd, ls, et, nI es, co, ca, pc, ra, rb, sp, mk, dp, upd sl p 0, upd lf p how, upd su p fs, upd ql p 0, upd st p 0, sk_clr pn (p * 16) 16, sk_clr ss (p * 16) 16, qs, qr, hd, fl, fc, fa, fb, fm, ek, ep, ev, er)) : wpY_die post (nI np, nI nd, ls, et, nI es, co, ca, pc, ra, rb, sp, mk, dp, sl, lf, su, ql, st, pn, ss, qs, qr, hd, fl, fc, fa, fb, fm, ek, ep, ev, er) (nI p) how fs := by
  have e1 : vp_in (nI p) 4 := vp_in_nI hp (by decide)
  have e2 : (nI p).toNatClampNeg = p := nI_clamp (by omega)
  simp only [wpY_die, e1, e2, true_implies, false_implies, not_true_eq_false, not_false_eq_true, and_true, true_and, forall_eq, implies_true]
  exact ⟨17, sy_die_l hp h 16 0 rfl⟩
theorem sy_rem_l {post : Int32 → SY → Prop} {J : Int32 → Int32 → Int32 → (Nat → Int32) → (Nat → Int32) → (Nat → Int32) → (Nat → Int32) → (Nat → Int32) → (Nat → Int32) → (Nat → Int32) → (Nat → Int32) → (Nat → Int32) → (Nat → Int32) → (Nat → Int32) → (Nat → Int32) → (Nat → Int32) → (Nat → Int32) → (Nat → Int32) → (Nat → Int32) → (Nat → Int32) → (Nat → Int32) → (Nat → Int32) → (Nat → Int32) → (Nat → Int32) → (Nat → Int32) → (Nat → Int32) → (Nat → Int32) → (Nat → Int32) → (Nat → Int32) → (Nat → Int32) → Prop} {x2 x3 x4 : Int32} {p l j : Nat} (hp : p < 4) (hl : l + 1 ≤ 8) (e : ql p = nI (l + 1)) (h : J x2 x3 (x4 + 1) co ca pc ra rb sp mk dp sl lf su (upd ql p (nI l)) st pn ss (sk_shf qs (p * 8 + j) (l - j)) (sk_shf qr (p * 8 + j) (l - j)) hd fl fc fa fb fm ek ep ev er) : ∀ d i, j + i + d = l → wY_deliver_148 post J (nI p) x2 x3 x4 (nI np) (nI nd) ls et (nI es) (d + 1) (nI (j + i)) co ca pc ra rb sp mk dp sl lf su ql st pn ss (sk_shf qs (p * 8 + j) i) (sk_shf qr (p * 8 + j) i) hd fl fc fa fb fm ek ep ev er := by
  have e1 : vp_in (nI p) 4 := vp_in_nI hp (by decide)
  have e2 : (nI p).toNatClampNeg = p := nI_clamp (by omega)
  intro d
  induction d with
  | zero =>
    intro i hi
    have hi' : i = l - j := by omega
    subst hi'
    have z : nI (l + 1) ≤ nI (j + (l - j) + 1) := nI_le (by omega) (by omega)
    rw [wY_deliver_148]
    simp only [e1, e2, e, nI_1, z, nI_pred, true_implies, false_implies, not_true_eq_false, not_false_eq_true, and_true, true_and, forall_eq, implies_true]
    exact h
  | succ d ih =>
    intro i hi
    have z : ¬ nI (l + 1) ≤ nI (j + i + 1) := nI_ge (by omega) (by omega)
    have e3 : vp_in (nI (p * 8 + j + i)) 32 := vp_in_nI (by omega) (by decide)
    have e4 : (nI (p * 8 + j + i)).toNatClampNeg = p * 8 + j + i := nI_clamp (by omega)
    have e5 : vp_in (nI (p * 8 + j + i + 1)) 32 := vp_in_nI (by omega) (by decide)
    have e6 : (nI (p * 8 + j + i + 1)).toNatClampNeg = p * 8 + j + i + 1 := nI_clamp (by omega)
    have e7 : nI p * 8 + nI (j + i) = nI (p * 8 + j + i) := by rw [sk_ix8, Nat.add_assoc]
    rw [wY_deliver_148]
    simp only [e1, e2, e, e7, nI_1, z, e3, e4, e5, e6, true_implies, false_implies, not_true_eq_false, not_false_eq_true, and_true, true_and, forall_eq, implies_true]
    exact ih (i + 1) (by omega)
theorem sy_79_skip {post : Int32 → SY → Prop} {x2 s x4 : Int32} {p n : Nat} (hp : p < 4) (hg : ¬ x2 = 0) (h : wY_deliver_235 post (nI p) x2 s (nI np) (nI nd) ls et (nI es) co ca pc ra rb sp mk dp sl lf su ql st pn ss qs qr hd fl fc fa fb fm ek ep ev er) : wY_deliver_79 post (nI p) (nI np) (nI nd) ls et (nI es) (n + 1) x2 s x4 co ca pc ra rb sp mk dp sl lf su ql st pn ss qs qr hd fl fc fa fb fm ek ep ev er := by
  have e1 : vp_in (nI p) 4 := vp_in_nI hp (by decide)
  have e2 : (nI p).toNatClampNeg = p := nI_clamp (by omega)
  rw [wY_deliver_79]
  exact ⟨e1, br_c (fun _ => h) fun _ => br_f hg h⟩
theorem sy_79_found {post : Int32 → SY → Prop} {s : Int32} {p l j g : Nat} (hp : p < 4) (hl : l + 1 ≤ 8) (e : ql p = nI (l + 1)) (hj : j ≤ l) (hg : 1 ≤ g) (hg2 : g < 32) (hq : qs (p * 8 + j) = nI g) (hx : mk p &&& ((1 : Int32) <<< (qs (p * 8 + j) &&& 31)) = 0) (h : wY_deliver_235 post (nI p) (nI g) (qr (p * 8 + j)) (nI np) (nI nd) ls et (nI es) co ca pc ra rb sp mk dp sl lf su (upd ql p (nI l)) st pn ss (sk_shf qs (p * 8 + j) (l - j)) (sk_shf qr (p * 8 + j) (l - j)) hd fl fc fa fb fm ek ep ev er) : ∀ d i, i + d = j → (∀ k, i ≤ k → k < j → ¬ mk p &&& ((1 : Int32) <<< (qs (p * 8 + k) &&& 31)) = 0) → wY_deliver_79 post (nI p) (nI np) (nI nd) ls et (nI es) (d + 2) 0 s (nI i) co ca pc ra rb sp mk dp sl lf su ql st pn ss qs qr hd fl fc fa fb fm ek ep ev er := by
  have e1 : vp_in (nI p) 4 := vp_in_nI hp (by decide)
  have e2 : (nI p).toNatClampNeg = p := nI_clamp (by omega)
  intro d
  induction d with
  | zero =>
    intro i hi _
    have hi' : i = j := by omega
    subst hi'
    have z : ¬ nI (l + 1) ≤ nI i := nI_ge (by omega) (by omega)
    have e3 : vp_in (nI (p * 8 + i)) 32 := vp_in_nI (by omega) (by decide)
    have e4 : (nI (p * 8 + i)).toNatClampNeg = p * 8 + i := nI_clamp (by omega)
    rw [wY_deliver_79]
    simp only [e1, e2, e, z, sk_ix8, e3, e4, hx, true_implies, false_implies, not_true_eq_false, not_false_eq_true, and_true, true_and, forall_eq, implies_true]
    rw [hq]
    exact ⟨l - i + 1, sy_rem_l hp hl e (sy_79_skip hp (nI_ne0 hg (by omega)) h) (l - i) 0 (by omega)⟩
  | succ d ih =>
    intro i hi hk
    have z : ¬ nI (l + 1) ≤ nI i := nI_ge (by omega) (by omega)
    have e3 : vp_in (nI (p * 8 + i)) 32 := vp_in_nI (by omega) (by decide)
    have e4 : (nI (p * 8 + i)).toNatClampNeg = p * 8 + i := nI_clamp (by omega)
    have e5 := hk i (by omega) (by omega)
    rw [wY_deliver_79]
    simp only [e1, e2, e, z, sk_ix8, e3, e4, e5, nI_1, true_implies, false_implies, not_true_eq_false, not_false_eq_true, and_true, true_and, forall_eq, implies_true]
    exact ih (i + 1) (by omega) fun k h1 h2 => hk k (by omega) h2
theorem sy_79_none {post : Int32 → SY → Prop} {s : Int32} {p l : Nat} (hp : p < 4) (hl : l ≤ 8) (e : ql p = nI l) (h : wY_deliver_235 post (nI p) 0 s (nI np) (nI nd) ls et (nI es) co ca pc ra rb sp mk dp sl lf su ql st pn ss qs qr hd fl fc fa fb fm ek ep ev er) : ∀ d i, i + d = l → (∀ k, i ≤ k → k < l → ¬ mk p &&& ((1 : Int32) <<< (qs (p * 8 + k) &&& 31)) = 0) → wY_deliver_79 post (nI p) (nI np) (nI nd) ls et (nI es) (d + 1) 0 s (nI i) co ca pc ra rb sp mk dp sl lf su ql st pn ss qs qr hd fl fc fa fb fm ek ep ev er := by
  have e1 : vp_in (nI p) 4 := vp_in_nI hp (by decide)
  have e2 : (nI p).toNatClampNeg = p := nI_clamp (by omega)
  intro d
  induction d with
  | zero =>
    intro i hi _
    have hi' : i = l := by omega
    subst hi'
    have z : nI i ≤ nI i := nI_le (by omega) (by omega)
    rw [wY_deliver_79]
    simp only [e1, e2, e, z, true_implies, false_implies, not_true_eq_false, not_false_eq_true, and_true, true_and, forall_eq, implies_true]
    exact h
  | succ d ih =>
    intro i hi hk
    have z : ¬ nI l ≤ nI i := nI_ge (by omega) (by omega)
    have e3 : vp_in (nI (p * 8 + i)) 32 := vp_in_nI (by omega) (by decide)
    have e4 : (nI (p * 8 + i)).toNatClampNeg = p * 8 + i := nI_clamp (by omega)
    have e5 := hk i (by omega) (by omega)
    rw [wY_deliver_79]
    simp only [e1, e2, e, z, sk_ix8, e3, e4, e5, nI_1, true_implies, false_implies, not_true_eq_false, not_false_eq_true, and_true, true_and, forall_eq, implies_true]
    exact ih (i + 1) (by omega) fun k h1 h2 => hk k (by omega) h2
theorem sy_7_found {post : Int32 → SY → Prop} {p g : Nat} (hp : p < 4) (hg : 1 ≤ g) (hg2 : g < 16) (hn : ¬ pn (p * 16 + g) = 0) (hx : mk p &&& ((1 : Int32) <<< (nI g &&& 31)) = 0) (h : wY_deliver_235 post (nI p) (nI g) (ss (p * 16 + g)) (nI np) (nI nd) ls et (nI es) co ca pc ra rb sp mk dp sl lf su ql st (upd pn (p * 16 + g) 0) (upd ss (p * 16 + g) 0) qs qr hd fl fc fa fb fm ek ep ev er) : ∀ d i, i + d = g → (∀ k, i ≤ k → k < g → pn (p * 16 + k) = 0 ∨ ¬ mk p &&& ((1 : Int32) <<< (nI k &&& 31)) = 0) → wY_deliver_7 post (nI p) (d + 2) 0 0 (nI i) (nI np) (nI nd) ls et (nI es) co ca pc ra rb sp mk dp sl lf su ql st pn ss qs qr hd fl fc fa fb fm ek ep ev er := by
  have e1 : vp_in (nI p) 4 := vp_in_nI hp (by decide)
  have e2 : (nI p).toNatClampNeg = p := nI_clamp (by omega)
  have hg0 : ¬ nI g = 0 := nI_ne0 hg (by omega)
  intro d
  induction d with
  | zero =>
    intro i hi _
    have hi' : i = g := by omega
    subst hi'
    have z : ¬ (15 : Int32) < nI i := nI_nlt (a := 15) (by omega) (by decide)
    have e3 : vp_in (nI (p * 16 + i)) 64 := vp_in_nI (by omega) (by decide)
    have e4 : (nI (p * 16 + i)).toNatClampNeg = p * 16 + i := nI_clamp (by omega)
    rw [wY_deliver_7]
    simp only [e1, e2, z, sk_ix16, e3, e4, hn, hx, true_implies, false_implies, not_true_eq_false, not_false_eq_true, and_true, true_and, forall_eq, implies_true]
    refine sy_drop hp hg2 ?_
    simp only [nI_1, true_implies, false_implies, not_true_eq_false, not_false_eq_true, and_true, true_and, forall_eq, implies_true]
    rw [wY_deliver_7]
    exact br_c (fun _ => ⟨1, sy_79_skip hp hg0 h⟩) fun _ => br_f hg0 ⟨1, sy_79_skip hp hg0 h⟩
  | succ d ih =>
    intro i hi hk
    have z : ¬ (15 : Int32) < nI i := nI_nlt (a := 15) (by omega) (by decide)
    have e3 : vp_in (nI (p * 16 + i)) 64 := vp_in_nI (by omega) (by decide)
    have e4 : (nI (p * 16 + i)).toNatClampNeg = p * 16 + i := nI_clamp (by omega)
    have hh := ih (i + 1) (by omega) fun k h1 h2 => hk k (by omega) h2
    rw [wY_deliver_7]
    by_cases y : pn (p * 16 + i) = 0
    · simp only [e1, e2, z, sk_ix16, e3, e4, y, nI_1, true_implies, false_implies, not_true_eq_false, not_false_eq_true, and_true, true_and, forall_eq, implies_true]
      exact hh
    · have e5 : ¬ mk p &&& ((1 : Int32) <<< (nI i &&& 31)) = 0 := (hk i (by omega) (by omega)).resolve_left y
      simp only [e1, e2, z, sk_ix16, e3, e4, y, e5, nI_1, true_implies, false_implies, not_true_eq_false, not_false_eq_true, and_true, true_and, forall_eq, implies_true]
      exact hh
theorem sy_7_none {post : Int32 → SY → Prop} {p : Nat} (hp : p < 4) (h : ∃ n79, wY_deliver_79 post (nI p) (nI np) (nI nd) ls et (nI es) n79 0 0 0 co ca pc ra rb sp mk dp sl lf su ql st pn ss qs qr hd fl fc fa fb fm ek ep ev er) : ∀ d i, i + d = 16 → (∀ k, i ≤ k → k < 16 → pn (p * 16 + k) = 0 ∨ ¬ mk p &&& ((1 : Int32) <<< (nI k &&& 31)) = 0) → wY_deliver_7 post (nI p) (d + 1) 0 0 (nI i) (nI np) (nI nd) ls et (nI es) co ca pc ra rb sp mk dp sl lf su ql st pn ss qs qr hd fl fc fa fb fm ek ep ev er := by
  have e1 : vp_in (nI p) 4 := vp_in_nI hp (by decide)
  have e2 : (nI p).toNatClampNeg = p := nI_clamp (by omega)
  intro d
  induction d with
  | zero =>
    intro i hi _
    have hi' : i = 16 := by omega
    subst hi'
    rw [wY_deliver_7]
    exact br_t (by decide) h
  | succ d ih =>
    intro i hi hk
    have z : ¬ (15 : Int32) < nI i := nI_nlt (a := 15) (by omega) (by decide)
    have e3 : vp_in (nI (p * 16 + i)) 64 := vp_in_nI (by omega) (by decide)
    have e4 : (nI (p * 16 + i)).toNatClampNeg = p * 16 + i := nI_clamp (by omega)
    have hh := ih (i + 1) (by omega) fun k h1 h2 => hk k (by omega) h2
    rw [wY_deliver_7]
    by_cases y : pn (p * 16 + i) = 0
    · simp only [e1, e2, z, sk_ix16, e3, e4, y, nI_1, true_implies, false_implies, not_true_eq_false, not_false_eq_true, and_true, true_and, forall_eq, implies_true]
      exact hh
    · have e5 : ¬ mk p &&& ((1 : Int32) <<< (nI i &&& 31)) = 0 := (hk i (by omega) (by omega)).resolve_left y
      simp only [e1, e2, z, sk_ix16, e3, e4, y, e5, nI_1, true_implies, false_implies, not_true_eq_false, not_false_eq_true, and_true, true_and, forall_eq, implies_true]
      exact hh
theorem sy_pb2 {post : Int32 → Prop} {p l : Nat} (hp : p < 4) (hl : l ≤ 8) (e : ql p = nI l) (m : Int32) (h : post (sk_orq m qs (p * 8) l)) : ∀ d i, i + d = l → wY_pendingBits_38 post (nI p) (nI np) (nI nd) ls et (nI es) co ca pc ra rb sp mk dp sl lf su ql st pn ss qs qr hd fl fc fa fb fm ek ep ev er (d + 1) (sk_orq m qs (p * 8) i) (nI i) := by
  have e1 : vp_in (nI p) 4 := vp_in_nI hp (by decide)
  have e2 : (nI p).toNatClampNeg = p := nI_clamp (by omega)
  intro d
  induction d with
  | zero =>
    intro i hi
    have hi' : i = l := by omega
    subst hi'
    have z : nI i ≤ nI i := nI_le (by omega) (by omega)
    rw [wY_pendingBits_38]
    simp only [e1, e2, e, z, true_implies, false_implies, not_true_eq_false, not_false_eq_true, and_true, true_and, forall_eq, implies_true]
    exact h
  | succ d ih =>
    intro i hi
    have z : ¬ nI l ≤ nI i := nI_ge (by omega) (by omega)
    have e3 : vp_in (nI (p * 8 + i)) 32 := vp_in_nI (by omega) (by decide)
    have e4 : (nI (p * 8 + i)).toNatClampNeg = p * 8 + i := nI_clamp (by omega)
    rw [wY_pendingBits_38]
    simp only [e1, e2, e, z, sk_ix8, e3, e4, nI_1, true_implies, false_implies, not_true_eq_false, not_false_eq_true, and_true, true_and, forall_eq, implies_true]
    exact ih (i + 1) (by omega)
/-- the word of the flags of signals below i -/
def sk_low (m : Int32) (pn : Nat → Int32) (p i : Nat) : Prop := ∀ s, s < 32 → (bt m s = true ↔ 1 ≤ s ∧ s < i ∧ ¬ pn (p * 16 + s) = 0)
theorem sk_low_0 {pn : Nat → Int32} {p i : Nat} {m : Int32} (h : sk_low m pn p i) (z : pn (p * 16 + i) = 0) : sk_low m pn p (i + 1) := by
  intro s hs
  rw [h s hs]
  constructor
  · exact fun y => ⟨y.1, by omega, y.2.2⟩
  · intro y
    refine ⟨y.1, ?_, y.2.2⟩
    by_cases e : s = i
    · subst e; exact absurd z y.2.2
    · omega
theorem sk_low_1 {pn : Nat → Int32} {p i : Nat} {m : Int32} (h : sk_low m pn p i) (h1 : 1 ≤ i) (hi : i < 32) (z : ¬ pn (p * 16 + i) = 0) : sk_low (m ||| ((1 : Int32) <<< (nI i &&& 31))) pn p (i + 1) := by
  intro s hs
  rw [b_or, sk_bit hi, Bool.or_eq_true, h s hs, decide_eq_true_eq]
  constructor
  · rintro (y | y)
    · exact ⟨y.1, by omega, y.2.2⟩
    · subst y; exact ⟨h1, by omega, z⟩
  · intro y
    by_cases e : s = i
    · exact Or.inr e
    · exact Or.inl ⟨y.1, by omega, y.2.2⟩
theorem sy_pb1 {post : Int32 → Prop} {p l : Nat} {w : Int32} (hp : p < 4) (hl : l ≤ 8) (e : ql p = nI l) (hw : sk_PB w pn p) (h : post (sk_orq w qs (p * 8) l)) : ∀ d i m, i + d = 16 → 1 ≤ i → sk_low m pn p i → wY_pendingBits_4 post (nI p) (nI np) (nI nd) ls et (nI es) co ca pc ra rb sp mk dp sl lf su ql st pn ss qs qr hd fl fc fa fb fm ek ep ev er (d + 1) m (nI i) := by
  have e1 : vp_in (nI p) 4 := vp_in_nI hp (by decide)
  have e2 : (nI p).toNatClampNeg = p := nI_clamp (by omega)
  intro d
  induction d with
  | zero =>
    intro i m hi h1 hm
    have hi' : i = 16 := by omega
    subst hi'
    have em : m = w := by
      apply b_ext
      intro s hs
      have a := hm s hs
      have b := hw s hs
      exact Bool.eq_iff_iff.mpr (a.trans b.symm)
    subst em
    rw [wY_pendingBits_4]
    exact br_t (by decide) ⟨l + 1, sy_pb2 hp hl e m h l 0 (by omega)⟩
  | succ d ih =>
    intro i m hi h1 hm
    have z : ¬ (15 : Int32) < nI i := nI_nlt (a := 15) (by omega) (by decide)
    have e3 : vp_in (nI (p * 16 + i)) 64 := vp_in_nI (by omega) (by decide)
    have e4 : (nI (p * 16 + i)).toNatClampNeg = p * 16 + i := nI_clamp (by omega)
    rw [wY_pendingBits_4]
    by_cases y : pn (p * 16 + i) = 0
    · simp only [z, sk_ix16, e3, e4, y, nI_1, true_implies, false_implies, not_true_eq_false, not_false_eq_true, and_true, true_and, forall_eq, implies_true]
      exact ih (i + 1) m (by omega) (by omega) (sk_low_0 hm y)
    · simp only [z, sk_ix16, e3, e4, y, nI_1, true_implies, false_implies, not_true_eq_false, not_false_eq_true, and_true, true_and, forall_eq, implies_true]
      exact ih (i + 1) _ (by omega) (by omega) (sk_low_1 hm h1 (by omega) y)
theorem sy_pb {post : Int32 → Prop} {p l : Nat} {w : Int32} (hp : p < 4) (hl : l ≤ 8) (e : ql p = nI l) (hw : sk_PB w pn p) (h : post (sk_orq w qs (p * 8) l)) : wpY_pendingBits post (nI np, nI nd, ls, et, nI es, co, ca, pc, ra, rb, sp, mk, dp, sl, lf, su, ql, st, pn, ss, qs, qr, hd, fl, fc, fa, fb, fm, ek, ep, ev, er) (nI p) := by
  unfold wpY_pendingBits
  refine ⟨16, sy_pb1 hp hl e hw h 15 1 0 (by omega) (by omega) ?_⟩
  intro s _
  rw [b_0]
  exact ⟨fun z => absurd z (by decide), fun z => by omega⟩
end
