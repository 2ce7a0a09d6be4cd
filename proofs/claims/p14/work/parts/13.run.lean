section
variable {nd es : Nat} {ls et : Int32} {co ca pc ra rb sp mk dp fc fa fb fm sl st lf su pg ss ql qs qr hd fl ek ep ev er : Nat → Int32}
variable {m L N i : Nat} {xs : Nat → Int32} {kc ks : Nat} {rt0 st0 rt1 st1 : Int64} {y10 y11 y12 y13 y14 y15 y16 y17 y18 y19 y20 y21 : Int32} {J : Int64 → Int64 → Int64 → Int64 → Int32 → Int32 → Int32 → Int32 → Int32 → Int32 → Int32 → Int32 → Int32 → Int32 → Int32 → Int32 → Int32 → Int32 → Int32 → Int32 → Int32 → Int32 → (Nat → Int32) → (Nat → Int32) → (Nat → Int32) → (Nat → Int32) → (Nat → Int32) → (Nat → Int32) → (Nat → Int32) → (Nat → Int32) → (Nat → Int32) → (Nat → Int32) → (Nat → Int32) → (Nat → Int32) → (Nat → Int32) → (Nat → Int32) → (Nat → Int32) → (Nat → Int32) → (Nat → Int32) → (Nat → Int32) → (Nat → Int32) → (Nat → Int32) → (Nat → Int32) → (Nat → Int32) → (Nat → Int32) → (Nat → Int32) → (Nat → Int32) → (Nat → Int32) → (Nat → Int32) → Prop}
theorem sx_ga {post : Int32 → Prop} {p g : Nat} (hp : p < 2) (h1 : 1 ≤ g) (hg : g < 32) (h : post (fl (p * 32 + g))) : wpX_getAction post (nI 2, nI nd, ls, et, nI es, co, ca, pc, ra, rb, sp, mk, dp, fc, fa, fb, fm, sl, st, lf, su, pg, ss, ql, qs, qr, hd, fl, ek, ep, ev, er) (nI p) (nI g) 1 := by
  unfold wpX_getAction
  refine sx_pid1 (np := 2) hp (by decide) ?_
  refine br_f (by decide) ?_
  refine sx_sig1 h1 hg ?_
  refine br_f (by decide) (nm_r (sk_ix32 p g) (br_f (by decide) (br_t rfl ⟨vp_in_nI (by omega) (by decide), ?_⟩)))
  rw [nI_clamp (by omega)]
  exact h
theorem pv_rb_s {x : Int32} {k : Nat} (h : pv_rb x fl k) (z : fl (0 * 32 + k) &&& 1 = 0) : pv_rb x fl (k + 1) := by
  intro g hg
  rw [h g hg]
  constructor
  · exact fun y => ⟨y.1, by omega, y.2.2⟩
  · intro y
    refine ⟨y.1, ?_, y.2.2⟩
    by_cases e : g = k
    · subst e; exact absurd z y.2.2
    · omega
theorem pv_rb_t {x : Int32} {k : Nat} (h1 : 1 ≤ k) (hk : k < 32) (h : pv_rb x fl k) (z : ¬ fl (0 * 32 + k) &&& 1 = 0) : pv_rb (x ||| ((1 : Int32) <<< (nI k &&& 31))) fl (k + 1) := by
  intro g hg
  rw [b_or, sk_bit hk, Bool.or_eq_true, h g hg, decide_eq_true_eq]
  constructor
  · rintro (y | y)
    · exact ⟨y.1, by omega, y.2.2⟩
    · subst y; exact ⟨h1, by omega, z⟩
  · intro y
    by_cases e : g = k
    · exact Or.inr e
    · exact Or.inl ⟨y.1, by omega, y.2.2⟩
theorem pv_289 {d : Nat} (hd3 : d ≤ 2) (hm : m ≤ 128) (hL : L ≤ 63) (hdd : dp 0 = nI d) (hT : pv_T nd L m rt0 st0 rt1 st1 y10 y11 y12 y13 y14 y15 y16 y17 y18 y19 y20 y21 co dp sp fc fa fb fm lf pg ss ql qs qr hd ek ep ev er) (HJ : ∀ {rt0 st0 rt1 st1 : Int64} {y10 y11 y12 y13 y14 y15 y16 y17 y18 y19 y20 y21 : Int32} {L9 m9 nd9 : Nat} {co9 ca9 pc9 ra9 rb9 sp9 mk9 dp9 fc9 fa9 fb9 fm9 sl9 st9 lf9 su9 pg9 ss9 ql9 qs9 qr9 hd9 fl9 ek9 ep9 ev9 er9 : Nat → Int32}, m9 ≤ 128 → L9 ≤ 63 → pv_T nd9 L9 m9 rt0 st0 rt1 st1 y10 y11 y12 y13 y14 y15 y16 y17 y18 y19 y20 y21 co9 dp9 sp9 fc9 fa9 fb9 fm9 lf9 pg9 ss9 ql9 qs9 qr9 hd9 ek9 ep9 ev9 er9 → J rt0 st0 rt1 st1 y10 y11 y12 y13 y14 y15 y16 y17 y18 y19 y20 y21 (nI (i + 3)) (nI 2) (nI nd9) (nI L9) (nI m9) (nI m9) co9 ca9 pc9 ra9 rb9 sp9 mk9 dp9 fc9 fa9 fb9 fm9 sl9 st9 lf9 su9 pg9 ss9 ql9 qs9 qr9 hd9 fl9 ek9 ep9 ev9 er9) : ∀ dd k x35, k + dd = 32 → 1 ≤ k → pv_rb x35 fl k → wL_law_289 (fun r => r = 1) N xs J rt0 st0 rt1 st1 y10 y11 y12 y13 y14 y15 y16 y17 y18 y19 y20 y21 (nI i) (nI d) (pc 0) (ra 0) (rb 0) (mk 0) (sp 0) (sl 0) kc ks (nI 2) (nI nd) (nI L) (nI m) (nI m) co ca pc ra rb sp mk dp fc fa fb fm sl st lf su pg ss ql qs qr hd fl ek ep ev er (dd + 1) x35 (nI k) := by
  intro dd
  induction dd with
  | zero =>
    intro k x35 hk _ hrb
    have hk' : k = 32 := by omega
    subst hk'
    obtain ⟨hx, hG, d', hd2, w1, w2, w3, w4⟩ := hT
    have hde : d' = d := (nI_eq (by omega) (by omega)).mp (w1.symm.trans hdd)
    subst hde
    rw [wL_law_289]
    refine br_t (by decide) ?_
    refine sx_lt ?_
    refine pv_run (R := pv_R rt0 rt1) (T := pv_R st0 st1) (m := m) (L := L) (by omega) hx (by omega) hG ?_
    intro r nd1 es1 ls1 et1 co1 ca1 pc1 ra1 rb1 sp1 mk1 dp1 fc1 fa1 fb1 fm1 sl1 st1' lf1 su1 pg1 ss1 ql1 qs1 qr1 hd1 fl1 ek1 ep1 ev1 er1 m1 nd2 es2 ls2 et2 co2 ca2 pc2 ra2 rb2 sp2 mk2 dp2 fc2 fa2 fb2 fm2 sl2 st2 lf2 su2 pg2 ss2 ql2 qs2 qr2 hd2' fl2 ek2 ep2 ev2 er2 ee1 hes1 hm1 F1 F2
    obtain ⟨rfl, rfl, hx1, _, x1, _, c1⟩ := F1
    obtain ⟨rfl, rfl, hx2, ⟨m2, rfl, hm2, hmm2, hG2⟩, x2, o2, _⟩ := F2
    obtain ⟨p1, p2, p3, p4, p5, p6, p7⟩ := o2 0 (by decide) (by decide)
    have f0 := p7 0 (by decide)
    have f1 := p7 1 (by decide)
    refine sx_lt ?_
    by_cases h128 : m2 ≤ 128
    · refine br_t (nI_le (b := 128) h128 (by decide)) ?_
      have hes2 : es2 = m2 := by omega
      refine sx_reg5 (p := 0) (by decide) ?_
      rcases c1 with ⟨q1, q2, q3⟩ | ⟨d3, g, q1, q2, q3, q4, h1, hg, q5, q6, q7, q8, q9, q10, q11⟩ | ⟨d3, q0, q1, q2, q3, q4, q5, q6, q7, q8⟩
      · have ed : dp2 0 = nI d' := p1.trans (q1.trans hdd)
        have g0 := q3 0 (by decide)
        have g1 := q3 1 (by decide)
        have hc : d' = 0 ∨ d' = 1 ∨ d' = 2 := by omega
        rw [ed]
        refine br_f (by rcases hc with rfl | rfl | rfl <;> decide) ?_
        refine pv_561s hd2 hm2 (by omega) hL ⟨hx2, hG2, d', hd2, ed, p2.trans (q2.trans w2), fun z => ?_, fun z => ?_⟩ HJ
        · obtain ⟨v0, v1, v2, v3, v4, v5⟩ := w3 z
          exact ⟨v0, f0.1.trans (g0.1.trans v1), f0.2.1.trans (g0.2.1.trans v2), f0.2.2.1.trans (g0.2.2.1.trans v3), f0.2.2.2.trans (g0.2.2.2.trans v4), v5⟩
        · obtain ⟨v0, v1, v2, v3, v4, v5⟩ := w4 z
          exact ⟨v0, f1.1.trans (g1.1.trans v1), f1.2.1.trans (g1.2.1.trans v2), f1.2.2.1.trans (g1.2.2.1.trans v3), f1.2.2.2.trans (g1.2.2.2.trans v4), v5⟩
      · have hn2 := hx.1.2
        have e3 : d3 = d' := (nI_eq (by omega) (by omega)).mp (q1.symm.trans hdd)
        subst e3
        have em1 : m1 = m + 1 := (nI_eq (by omega) (by omega)).mp (ee1.symm.trans q11)
        have ed : dp2 0 = nI (d3 + 1) := p1.trans q3
        obtain ⟨k1, k2, k3⟩ := q10 (by omega)
        obtain ⟨j1, j2, j3, j4⟩ := x2 m (by omega)
        rw [ed]
        refine br_t (nI_1 d3).symm (br_f (nI_pos (by omega)) (br_f (nI_ge (b := 2) (by omega) (by decide)) ?_))
        refine sx_stored h128 ?_
        refine pv_389 (j := m) (m2 := m2) (g := g) (by omega) h128 hes2 h1 hg (j1.trans k1) (j2.trans k2) (j3.trans k3) ?_
        refine pv_437 (sl' := sl) (pc' := pc) (ra' := ra) (fl' := fl) (by omega) h1 hg hm2 (by omega) hL hrb rfl rfl rfl (fun c a ec ea => ⟨fun z => ?_, fun z => ?_⟩) HJ
        · subst z
          refine ⟨hx2, hG2, 1, by decide, ed, ?_, fun _ => ⟨by decide, ?_, ?_, ?_, ?_, w2⟩, fun z => ?_⟩
          · rw [p2, q4, w2]; decide
          · exact f0.1.trans (q5.trans ec.symm)
          · exact f0.2.1.trans (q6.trans ea.symm)
          · exact f0.2.2.1.trans q7
          · exact f0.2.2.2.trans q8
          · exact absurd (w4 z).1 (by decide)
        · subst z
          have g0 := q9 0 (by decide) (by decide)
          refine ⟨hx2, hG2, 2, by decide, ed, ?_, fun z => ?_, fun _ => ⟨by decide, ?_, ?_, ?_, ?_, w2⟩⟩
          · rw [p2, q4, w2]; decide
          · obtain ⟨v0, v1, v2, v3, v4, v5⟩ := w3 z
            exact ⟨by decide, f0.1.trans (g0.1.trans v1), f0.2.1.trans (g0.2.1.trans v2), f0.2.2.1.trans (g0.2.2.1.trans v3), f0.2.2.2.trans (g0.2.2.2.trans v4), v5⟩
          · exact f1.1.trans (q5.trans ec.symm)
          · exact f1.2.1.trans (q6.trans ea.symm)
          · exact f1.2.2.1.trans q7
          · exact f1.2.2.2.trans q8
      · have hb : d3 + 1 = d' := (nI_eq (by omega) (by omega)).mp (q1.symm.trans hdd)
        subst hb
        have ed : dp2 0 = nI d3 := p1.trans q2
        have hc : d3 = 0 ∨ d3 = 1 := by omega
        have g0 := q8 0 (by decide)
        have g1 := q8 1 (by decide)
        rw [ed]
        refine br_f (by rcases hc with rfl | rfl <;> decide) ?_
        refine pv_561p (by omega) hm2 (by omega) hL (fun z => ?_) (fun z => ?_) (fun z y => ?_) (fun z y => ?_) HJ
        · subst z
          refine ⟨hx2, hG2, 0, by decide, ed, ?_, fun z => absurd rfl z, fun z => absurd (w4 z).1 (by decide)⟩
          rw [p2, q3, w2]; decide
        · subst z
          refine ⟨hx2, hG2, 1, by decide, ed, ?_, fun z => ?_, fun z => absurd rfl z⟩
          · rw [p2, q3, w2]; decide
          · obtain ⟨v0, v1, v2, v3, v4, v5⟩ := w3 z
            exact ⟨by decide, f0.1.trans (g0.1.trans v1), f0.2.1.trans (g0.2.1.trans v2), f0.2.2.1.trans (g0.2.2.1.trans v3), f0.2.2.2.trans (g0.2.2.2.trans v4), v5⟩
        · subst z
          obtain ⟨v0, v1, v2, v3, v4, v5⟩ := w3 y
          refine ⟨p3.trans (q4.trans v1), p4.trans (q5.trans v2), p5.trans (q6.trans v3), p6.trans (q7.trans v4), ?_⟩
          rw [p2, q3, w2, v5]; decide
        · subst z
          obtain ⟨v0, v1, v2, v3, v4, v5⟩ := w4 y
          refine ⟨p3.trans (q4.trans v1), p4.trans (q5.trans v2), p5.trans (q6.trans v3), p6.trans (q7.trans v4), ?_⟩
          rw [p2, q3, w2, v5]; decide
    · exact br_f (nI_ge (a := 128) (by omega) (by omega)) rfl
  | succ dd ih =>
    intro k x35 hk h1 hrb
    rw [wL_law_289]
    refine br_f (nI_ge (b := 32) (by omega) (by decide)) ?_
    refine sx_ga (p := 0) (by decide) h1 (by omega) ?_
    refine br_c (fun z => nm_r (nI_1 k) (ih (k + 1) x35 (by omega) (by omega) (pv_rb_s hrb z))) fun z => nm_e (nm_r (nI_1 k) (ih (k + 1) _ (by omega) (by omega) (pv_rb_t h1 (by omega) hrb z)))
end
