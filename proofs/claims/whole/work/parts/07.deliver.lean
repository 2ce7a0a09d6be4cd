theorem sk_dec {x : Int32} (h : ¬ x ≤ 0) : 0 ≤ x - 1 := by
  obtain ⟨j, hj, rfl⟩ := nI_of (x := x) (fun z => h (Int32.le_of_lt z))
  obtain ⟨m, rfl⟩ : ∃ m, j = m + 1 := ⟨j - 1, by
    have : j ≠ 0 := fun z => h (by subst z; decide)
    omega⟩
  rw [nI_pred]
  exact nI_pos' (by omega)
theorem sx_cell1 {post : Int32 → Prop} {c : Nat} (hc : c < 32) (h : post 1) : wpX_isCell post (nI c) :=
  br_f (nI_pos (by omega)) (br_f (nI_ge (b := 32) hc (by decide)) h)
theorem sx_cell0 {post : Int32 → Prop} {x : Int32} (hx : x < 0 ∨ nI 32 ≤ x) (h : post 0) : wpX_isCell post x :=
  br_c (fun _ => h) fun z => br_t (hx.resolve_left z) h
theorem sx_hd1 {post : Int32 → Prop} {x : Int32} (hx : x = -2 ∨ x = -1 ∨ ∃ j, j < 32 ∧ x = nI j) (h : post 1) : wpX_isHandler post x := by
  refine br_c (fun _ => h) fun n1 => br_c (fun _ => h) fun n2 => ?_
  obtain ⟨j, hj, rfl⟩ := (hx.resolve_left n2).resolve_left n1
  exact sx_cell1 hj (br_f (by decide) h)
theorem sx_hd0 {post : Int32 → Prop} {x : Int32} (n1 : ¬ x = -1) (n2 : ¬ x = -2) (hx : x < 0 ∨ nI 32 ≤ x) (h : post 0) : wpX_isHandler post x :=
  br_f n1 (br_f n2 (sx_cell0 hx (br_t rfl h)))
theorem sk_hd (x : Int32) : (x = -2 ∨ x = -1 ∨ ∃ j, j < 32 ∧ x = nI j) ∨ (¬ x = -1 ∧ ¬ x = -2 ∧ (x < 0 ∨ nI 32 ≤ x)) := by
  by_cases h2 : x = -2
  · exact Or.inl (Or.inl h2)
  by_cases h1 : x = -1
  · exact Or.inl (Or.inr (Or.inl h1))
  rcases pk_ix x (n := 32) (by decide) with h | h | h
  · exact Or.inr ⟨h1, h2, Or.inl h⟩
  · exact Or.inr ⟨h1, h2, Or.inr h⟩
  · exact Or.inl (Or.inr (Or.inr h))
theorem sx_cat1 {post : Int32 → Prop} {g : Nat} (h1 : 1 ≤ g) (hg : g < 32) (h9 : g ≠ 9) (h15 : g ≠ 15) (h : post 1) : wpX_isCatchable post (nI g) := by
  have a9 : ¬ nI g = 9 := fun z => h9 ((nI_eq (b := 9) (by omega) (by decide)).mp z)
  have a15 : ¬ nI g = 15 := fun z => h15 ((nI_eq (b := 15) (by omega) (by decide)).mp z)
  unfold wpX_isCatchable
  refine sx_sig1 h1 hg ?_
  exact br_f (by decide) (br_f a9 (br_f a15 h))
/-- k is no signal that can be caught -/
def sk_nc (k : Int32) : Prop := (k < 1 ∨ 31 < k) ∨ k = 9 ∨ k = 15
theorem sk_cat (k : Int32) : sk_nc k ∨ ∃ g, 1 ≤ g ∧ g < 32 ∧ g ≠ 9 ∧ g ≠ 15 ∧ k = nI g := by
  rcases sk_sig k with h | ⟨g, h1, h2, rfl⟩
  · exact Or.inl (Or.inl h)
  by_cases h9 : g = 9
  · subst h9; exact Or.inl (Or.inr (Or.inl rfl))
  by_cases h15 : g = 15
  · subst h15; exact Or.inl (Or.inr (Or.inr rfl))
  exact Or.inr ⟨g, h1, h2, h9, h15, rfl⟩
theorem sx_cat0 {post : Int32 → Prop} {k : Int32} (hk : sk_nc k) (h : post 0) : wpX_isCatchable post k := by
  unfold wpX_isCatchable
  rcases hk with hk | rfl | rfl
  · exact sx_sig0 hk (br_t rfl h)
  · exact sx_sig1 (g := 9) (by decide) (by decide) (br_f (by decide) (br_t rfl h))
  · exact sx_sig1 (g := 15) (by decide) (by decide) (br_f (by decide) (br_f (by decide) (br_t rfl h)))
section
variable {np nd es : Nat} {ls et : Int32} {co ca pc ra rb sp mk dp fc fa fb fm sl st lf su pg pn ss ql qs qr hd fl ek ep ev er : Nat → Int32}
theorem sy_ok0 {post : Int32 → Prop} {k x : Int32} (hk : sk_nc k) (h : post 0) : wpY_actOk post (nI np, nI nd, ls, et, nI es, co, ca, pc, ra, rb, sp, mk, dp, sl, lf, su, ql, st, pn, ss, qs, qr, hd, fl, fc, fa, fb, fm, ek, ep, ev, er) k x := by
  unfold wpY_actOk
  rcases hk with hk | rfl | rfl
  · exact br_c (fun _ => h) fun z => br_t (hk.resolve_left z) h
  · exact br_f (by decide) (br_f (by decide) (br_t rfl h))
  · exact br_f (by decide) (br_f (by decide) (br_f (by decide) (br_t rfl h)))
theorem sy_ok1 {post : Int32 → Prop} {g : Nat} {x : Int32} (h1 : 1 ≤ g) (hg : g < 32) (h9 : g ≠ 9) (h15 : g ≠ 15) (hx : x = -2 ∨ x = -1 ∨ ∃ j, j < 32 ∧ x = nI j) (h : post 1) : wpY_actOk post (nI np, nI nd, ls, et, nI es, co, ca, pc, ra, rb, sp, mk, dp, sl, lf, su, ql, st, pn, ss, qs, qr, hd, fl, fc, fa, fb, fm, ek, ep, ev, er) (nI g) x := by
  have a9 : ¬ nI g = 9 := fun z => h9 ((nI_eq (b := 9) (by omega) (by decide)).mp z)
  have a15 : ¬ nI g = 15 := fun z => h15 ((nI_eq (b := 15) (by omega) (by decide)).mp z)
  unfold wpY_actOk
  refine br_f (nI_nlt (b := 1) h1 (by omega)) (br_f (nI_nlt (a := 31) (by omega) (by decide)) (br_f a9 (br_f a15 (br_c (fun _ => h) fun n1 => br_c (fun _ => h) fun n2 => ?_))))
  obtain ⟨j, hj, rfl⟩ := (hx.resolve_left n2).resolve_left n1
  exact br_f (nI_pos (by omega)) (br_f (nI_nlt (a := 31) (by omega) (by decide)) h)
theorem sy_ok2 {post : Int32 → Prop} {g : Nat} {x : Int32} (h1 : 1 ≤ g) (hg : g < 32) (h9 : g ≠ 9) (h15 : g ≠ 15) (n1 : ¬ x = -1) (n2 : ¬ x = -2) (hx : x < 0 ∨ nI 32 ≤ x) (h : post 0) : wpY_actOk post (nI np, nI nd, ls, et, nI es, co, ca, pc, ra, rb, sp, mk, dp, sl, lf, su, ql, st, pn, ss, qs, qr, hd, fl, fc, fa, fb, fm, ek, ep, ev, er) (nI g) x := by
  have a9 : ¬ nI g = 9 := fun z => h9 ((nI_eq (b := 9) (by omega) (by decide)).mp z)
  have a15 : ¬ nI g = 15 := fun z => h15 ((nI_eq (b := 15) (by omega) (by decide)).mp z)
  unfold wpY_actOk
  refine br_f (nI_nlt (b := 1) h1 (by omega)) (br_f (nI_nlt (a := 31) (by omega) (by decide)) (br_f a9 (br_f a15 (br_f n1 (br_f n2 (br_c (fun _ => h) fun z => br_t ?_ h))))))
  exact Int32.lt_of_lt_of_le (by decide) (hx.resolve_left z)
theorem sx_seta1 {post : Int32 → SX → Prop} {p g : Nat} {x f : Int32} (hp : p < np) (hn : np ≤ 4) (hl : lf p = 0) (h1 : 1 ≤ g) (hg : g < 32) (h9 : g ≠ 9) (h15 : g ≠ 15) (hx : x = -2 ∨ x = -1 ∨ ∃ j, j < 32 ∧ x = nI j) (h : post (hd (p * 32 + g)) (nI np, nI nd, ls, et, nI es, co, ca, pc, ra, rb, sp, mk, dp, fc, fa, fb, fm, sl, st, lf, su, pg, ss, ql, qs, qr, upd hd (p * 32 + g) x, upd fl (p * 32 + g) (f &&& 7), ek, ep, ev, er)) : wpX_setAction post (nI np, nI nd, ls, et, nI es, co, ca, pc, ra, rb, sp, mk, dp, fc, fa, fb, fm, sl, st, lf, su, pg, ss, ql, qs, qr, hd, fl, ek, ep, ev, er) (nI p) (nI g) x f := by
  have e3 : vp_in (nI (p * 32 + g)) 128 := vp_in_nI (by omega) (by decide)
  have e4 : (nI (p * 32 + g)).toNatClampNeg = p * 32 + g := nI_clamp (by omega)
  unfold wpX_setAction
  refine sx_al1 hp hn hl ?_
  refine br_f (by decide) ?_
  refine sx_cat1 h1 hg h9 h15 ?_
  refine br_f (by decide) ?_
  refine sx_hd1 hx ?_
  refine br_f (by decide) ?_
  simp only [sk_ix32, e3, e4, true_implies, false_implies, not_true_eq_false, not_false_eq_true, and_true, true_and, forall_eq, implies_true]
  exact h
theorem sx_seta0 {post : Int32 → SX → Prop} {p : Nat} {k x f : Int32} (hp : p < np) (hn : np ≤ 4) (hl : lf p = 0) (hk : sk_nc k) (h : post (-22) (nI np, nI nd, ls, et, nI es, co, ca, pc, ra, rb, sp, mk, dp, fc, fa, fb, fm, sl, st, lf, su, pg, ss, ql, qs, qr, hd, fl, ek, ep, ev, er)) : wpX_setAction post (nI np, nI nd, ls, et, nI es, co, ca, pc, ra, rb, sp, mk, dp, fc, fa, fb, fm, sl, st, lf, su, pg, ss, ql, qs, qr, hd, fl, ek, ep, ev, er) (nI p) k x f := by
  unfold wpX_setAction
  refine sx_al1 hp hn hl ?_
  refine br_f (by decide) ?_
  refine sx_cat0 hk ?_
  exact br_t rfl h
theorem sx_seta2 {post : Int32 → SX → Prop} {p g : Nat} {x f : Int32} (hp : p < np) (hn : np ≤ 4) (hl : lf p = 0) (h1 : 1 ≤ g) (hg : g < 32) (h9 : g ≠ 9) (h15 : g ≠ 15) (n1 : ¬ x = -1) (n2 : ¬ x = -2) (hx : x < 0 ∨ nI 32 ≤ x) (h : post (-22) (nI np, nI nd, ls, et, nI es, co, ca, pc, ra, rb, sp, mk, dp, fc, fa, fb, fm, sl, st, lf, su, pg, ss, ql, qs, qr, hd, fl, ek, ep, ev, er)) : wpX_setAction post (nI np, nI nd, ls, et, nI es, co, ca, pc, ra, rb, sp, mk, dp, fc, fa, fb, fm, sl, st, lf, su, pg, ss, ql, qs, qr, hd, fl, ek, ep, ev, er) (nI p) (nI g) x f := by
  unfold wpX_setAction
  refine sx_al1 hp hn hl ?_
  refine br_f (by decide) ?_
  refine sx_cat1 h1 hg h9 h15 ?_
  refine br_f (by decide) ?_
  refine sx_hd0 n1 n2 hx ?_
  exact br_t rfl h
theorem sk_deliver {p : Nat} (I : sk_Inv np nd es pg pn ss dp ql qs hd sl mk fm) (hp : p < 4) : (∃ u v, sk_Rel np u v ∧ (∀ post : Int32 → SX → Prop, post 1 u → wpX_deliver post (nI np, nI nd, ls, et, nI es, co, ca, pc, ra, rb, sp, mk, dp, fc, fa, fb, fm, sl, st, lf, su, pg, ss, ql, qs, qr, hd, fl, ek, ep, ev, er) (nI p)) ∧ (∀ post : Int32 → SY → Prop, post 1 v → wpY_deliver post (nI np, nI nd, ls, et, nI es, co, ca, pc, ra, rb, sp, mk, dp, sl, lf, su, ql, st, pn, ss, qs, qr, hd, fl, fc, fa, fb, fm, ek, ep, ev, er) (nI p))) ∨ ((∀ post : Int32 → SX → Prop, post 0 (nI np, nI nd, ls, et, nI es, co, ca, pc, ra, rb, sp, mk, dp, fc, fa, fb, fm, sl, st, lf, su, pg, ss, ql, qs, qr, hd, fl, ek, ep, ev, er) → wpX_deliver post (nI np, nI nd, ls, et, nI es, co, ca, pc, ra, rb, sp, mk, dp, fc, fa, fb, fm, sl, st, lf, su, pg, ss, ql, qs, qr, hd, fl, ek, ep, ev, er) (nI p)) ∧ (∀ post : Int32 → SY → Prop, post 0 (nI np, nI nd, ls, et, nI es, co, ca, pc, ra, rb, sp, mk, dp, sl, lf, su, ql, st, pn, ss, qs, qr, hd, fl, fc, fa, fb, fm, ek, ep, ev, er) → wpY_deliver post (nI np, nI nd, ls, et, nI es, co, ca, pc, ra, rb, sp, mk, dp, sl, lf, su, ql, st, pn, ss, qs, qr, hd, fl, fc, fa, fb, fm, ek, ep, ev, er) (nI p))) := by
  have hB := I.2.2.2.1 p hp
  rcases sk_sel (fun i => ¬ pn (p * 16 + i) = 0 ∧ mk p &&& ((1 : Int32) <<< (nI i &&& 31)) = 0) 1 16 with ⟨g, h1, hg, ⟨hn, hx⟩, hm⟩ | hm
  · have hm' : ∀ k, 1 ≤ k → k < g → pn (p * 16 + k) = 0 ∨ ¬ mk p &&& ((1 : Int32) <<< (nI k &&& 31)) = 0 := fun k a b => by
      by_cases y : pn (p * 16 + k) = 0
      · exact Or.inl y
      · exact Or.inr fun z => hm k a b ⟨y, z⟩
    obtain ⟨u, v, R, hX, hY⟩ := sk_act (np := np) (nd := nd) (ls := ls) (et := et) (es := es) (co := co) (ca := ca) (pc := pc) (ra := ra) (rb := rb) (sp := sp) (mk := mk) (dp := dp) (fc := fc) (fa := fa) (fb := fb) (fm := fm) (sl := sl) (st := st) (lf := lf) (su := su) (pg := upd pg p (pg p &&& (((1 : Int32) <<< (nI g &&& 31)) ^^^ (-1)))) (ss := upd ss (p * 16 + g) 0) (ql := ql) (qs := qs) (qr := qr) (hd := hd) (fl := fl) (ek := ek) (ep := ep) (ev := ev) (er := er) (pn := upd pn (p * 16 + g) 0) (s := ss (p * 16 + g)) (sk_I_drop hg I) hp h1 (by omega)
    obtain ⟨nd1, es1, ls1, et1, co1, ca1, pc1, ra1, rb1, sp1, mk1, dp1, fc1, fa1, fb1, fm1, sl1, st1, lf1, su1, pg1, pn1, ss1, ql1, qs1, qr1, hd1, fl1, ek1, ep1, ev1, er1, rfl, rfl, I1⟩ := R
    refine Or.inl ⟨(nI np, nI nd1, ls1, et1, nI es1, co1, ca1, pc1, ra1, rb1, sp1, mk1, dp1, fc1, fa1, fb1, fm1, sl1, st1, lf1, su1, pg1, ss1, ql1, qs1, qr1, hd1, fl1, ek1, ep1, ev1, er1), (nI np, nI nd1, ls1, et1, nI es1, co1, ca1, pc1, ra1, rb1, sp1, mk1, dp1, sl1, lf1, su1, ql1, st1, pn1, ss1, qs1, qr1, hd1, fl1, fc1, fa1, fb1, fm1, ek1, ep1, ev1, er1), sk_mk I1, fun post h => ?_, fun post h => ?_⟩
    · unfold wpX_deliver
      refine sx_low hp h1 hg (fun z => ((sk_PB_r hB h1 hg).mp z).elim hn (fun y => y hx)) (fun j a b => (sk_PB_r hB a (by omega)).mpr (hm' j a b)) ?_
      refine br_f (nI_ne0 h1 (by omega)) ⟨by rw [sk_ix16]; exact vp_in_nI (by omega) (by decide), nm_r (by rw [sk_ix16, nI_clamp (by omega)]) ?_⟩
      refine sx_drop hp hg ?_
      exact hX _ h
    · unfold wpY_deliver
      exact ⟨g - 1 + 2, sy_7_found hp h1 hg hn hx (hY _ h) (g - 1) 1 (by omega) hm'⟩
  · have hm' : ∀ k, 1 ≤ k → k < 16 → pn (p * 16 + k) = 0 ∨ ¬ mk p &&& ((1 : Int32) <<< (nI k &&& 31)) = 0 := fun k a b => by
      by_cases y : pn (p * 16 + k) = 0
      · exact Or.inl y
      · exact Or.inr fun z => hm k a b ⟨y, z⟩
    obtain ⟨l, hl, e, hq⟩ := I.2.2.2.2.2.2.1 p hp
    rcases sk_sel (fun j => mk p &&& ((1 : Int32) <<< (qs (p * 8 + j) &&& 31)) = 0) 0 l with ⟨j, _, hj, hx, hm2⟩ | hm2
    · obtain ⟨g, h1, hg, hqs⟩ := hq j hj
      obtain ⟨l', rfl⟩ : ∃ l', l = l' + 1 := ⟨l - 1, by omega⟩
      obtain ⟨u, v, R, hX, hY⟩ := sk_act (np := np) (nd := nd) (ls := ls) (et := et) (es := es) (co := co) (ca := ca) (pc := pc) (ra := ra) (rb := rb) (sp := sp) (mk := mk) (dp := dp) (fc := fc) (fa := fa) (fb := fb) (fm := fm) (sl := sl) (st := st) (lf := lf) (su := su) (pg := pg) (ss := ss) (ql := upd ql p (nI l')) (qs := sk_shf qs (p * 8 + j) (l' - j)) (qr := sk_shf qr (p * 8 + j) (l' - j)) (hd := hd) (fl := fl) (ek := ek) (ep := ep) (ev := ev) (er := er) (pn := pn) (s := qr (p * 8 + j)) (sk_I_rem hp hl e (by omega) I) hp h1 hg
      obtain ⟨nd1, es1, ls1, et1, co1, ca1, pc1, ra1, rb1, sp1, mk1, dp1, fc1, fa1, fb1, fm1, sl1, st1, lf1, su1, pg1, pn1, ss1, ql1, qs1, qr1, hd1, fl1, ek1, ep1, ev1, er1, rfl, rfl, I1⟩ := R
      refine Or.inl ⟨(nI np, nI nd1, ls1, et1, nI es1, co1, ca1, pc1, ra1, rb1, sp1, mk1, dp1, fc1, fa1, fb1, fm1, sl1, st1, lf1, su1, pg1, ss1, ql1, qs1, qr1, hd1, fl1, ek1, ep1, ev1, er1), (nI np, nI nd1, ls1, et1, nI es1, co1, ca1, pc1, ra1, rb1, sp1, mk1, dp1, sl1, lf1, su1, ql1, st1, pn1, ss1, qs1, qr1, hd1, fl1, fc1, fa1, fb1, fm1, ek1, ep1, ev1, er1), sk_mk I1, fun post h => ?_, fun post h => ?_⟩
      · unfold wpX_deliver
        refine sx_low0 hp (fun j a b => (sk_PB_r hB a b).mpr (hm' j a b)) ?_
        refine br_t rfl ?_
        unfold wpX_earliestDeliverable
        refine ⟨j + 1, sx_ear_l hp hl e hj hx ?_ j 0 (by omega) (fun k a b => hm2 k a b)⟩
        refine br_t (nI_pos' (by omega)) (nm_r (sk_ix8 p j) ⟨vp_in_nI (by omega) (by decide), nm_r (e' := nI g) (by rw [nI_clamp (by omega)]; exact hqs) ⟨vp_in_nI (by omega) (by decide), nm_r (e' := qr (p * 8 + j)) (by rw [nI_clamp (by omega)]) ?_⟩⟩)
        refine sx_remove hp hl e (by omega) ?_
        exact hX _ h
      · unfold wpY_deliver
        exact ⟨16, sy_7_none hp ⟨j + 2, sy_79_found hp hl e (by omega) h1 hg hqs hx (hY _ h) j 0 (by omega) (fun k a b => hm2 k a b)⟩ 15 1 (by omega) hm'⟩
    · refine Or.inr ⟨fun post h => ?_, fun post h => ?_⟩
      · unfold wpX_deliver
        refine sx_low0 hp (fun j a b => (sk_PB_r hB a b).mpr (hm' j a b)) ?_
        refine br_t rfl ?_
        unfold wpX_earliestDeliverable
        refine ⟨l + 1, sx_ear0_l hp hl e ?_ l 0 (by omega) (fun k a b => hm2 k a b)⟩
        exact br_f (by decide) h
      · unfold wpY_deliver
        exact ⟨16, sy_7_none hp ⟨l + 1, sy_79_none hp hl e (br_t rfl h) l 0 (by omega) (fun k a b => hm2 k a b)⟩ 15 1 (by omega) hm'⟩
end
