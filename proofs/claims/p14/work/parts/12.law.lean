/-- the two processes' sets -/
def pv_R (a b : Int64) : Nat → Nat → Prop := fun q => if q = 0 then pv_B a else if q = 1 then pv_B b else fun _ => False
theorem pv_R_add0 {a b : Int64} {r : Nat} (hr : r < 64) : pv_R (a ||| ((1 : Int64) <<< ((nI r).toInt64 &&& 63))) b = pv_add (pv_R a b) 0 r := by
  funext q
  by_cases e : q = 0
  · subst e
    rw [pv_add_s]
    funext t
    show pv_B _ t = (pv_B a t ∨ t = r)
    exact propext ((pv_B_or _ _ t).trans (or_congr Iff.rfl (pv_B_sh hr t)))
  · rw [pv_add_n e]
    simp only [pv_R, if_neg e]
theorem pv_R_add1 {a b : Int64} {r : Nat} (hr : r < 64) : pv_R a (b ||| ((1 : Int64) <<< ((nI r).toInt64 &&& 63))) = pv_add (pv_R a b) 1 r := by
  funext q
  by_cases e : q = 1
  · subst e
    rw [pv_add_s]
    funext t
    show pv_B _ t = (pv_B b t ∨ t = r)
    exact propext ((pv_B_or _ _ t).trans (or_congr Iff.rfl (pv_B_sh hr t)))
  · rw [pv_add_n e]
    simp only [pv_R, if_neg e]
/-- what the law remembers of process 0's handlers -/
def pv_W (y10 y11 y12 y13 y14 y15 y16 y17 y18 y19 y20 y21 : Int32) (dp sp fc fa fb fm : Nat → Int32) : Prop := ∃ d, d ≤ 2 ∧ dp 0 = nI d ∧ sp 0 = nI (64 - 4 * d) ∧ (¬ y10 = 0 → 1 ≤ d ∧ fc 0 = y12 ∧ fa 0 = y13 ∧ fb 0 = y14 ∧ fm 0 = y15 ∧ y16 = 64) ∧ (¬ y11 = 0 → 2 ≤ d ∧ fc 1 = y17 ∧ fa 1 = y18 ∧ fb 1 = y19 ∧ fm 1 = y20 ∧ y21 = 60)
def pv_T (nd L m : Nat) (rt0 st0 rt1 st1 : Int64) (y10 y11 y12 y13 y14 y15 y16 y17 y18 y19 y20 y21 : Int32) (co dp sp fc fa fb fm lf pg ss ql qs qr hd ek ep ev er : Nat → Int32) : Prop :=
  pv_X nd co dp ql qs hd ∧ (m ≤ 128 → pv_GA m L lf pg ss ql qs qr ek ep ev er (pv_R rt0 rt1) (pv_R st0 st1)) ∧ pv_W y10 y11 y12 y13 y14 y15 y16 y17 y18 y19 y20 y21 dp sp fc fa fb fm
section
variable {nd es : Nat} {ls et : Int32} {co ca pc ra rb sp mk dp fc fa fb fm sl st lf su pg ss ql qs qr hd fl ek ep ev er : Nat → Int32}
variable {m L N i : Nat} {xs : Nat → Int32} {kc ks : Nat} {rt0 st0 rt1 st1 : Int64} {y10 y11 y12 y13 y14 y15 y16 y17 y18 y19 y20 y21 : Int32} {J : Int64 → Int64 → Int64 → Int64 → Int32 → Int32 → Int32 → Int32 → Int32 → Int32 → Int32 → Int32 → Int32 → Int32 → Int32 → Int32 → Int32 → Int32 → Int32 → Int32 → Int32 → Int32 → (Nat → Int32) → (Nat → Int32) → (Nat → Int32) → (Nat → Int32) → (Nat → Int32) → (Nat → Int32) → (Nat → Int32) → (Nat → Int32) → (Nat → Int32) → (Nat → Int32) → (Nat → Int32) → (Nat → Int32) → (Nat → Int32) → (Nat → Int32) → (Nat → Int32) → (Nat → Int32) → (Nat → Int32) → (Nat → Int32) → (Nat → Int32) → (Nat → Int32) → (Nat → Int32) → (Nat → Int32) → (Nat → Int32) → (Nat → Int32) → (Nat → Int32) → (Nat → Int32) → (Nat → Int32) → Prop}
theorem pv_953 (hm : es = min m 128) (hm2 : m ≤ 1000) (hL : L ≤ 63) (hT : pv_T nd L m rt0 st0 rt1 st1 y10 y11 y12 y13 y14 y15 y16 y17 y18 y19 y20 y21 co dp sp fc fa fb fm lf pg ss ql qs qr hd ek ep ev er) (HJ : ∀ {rt0 st0 rt1 st1 : Int64} {y10 y11 y12 y13 y14 y15 y16 y17 y18 y19 y20 y21 : Int32} {L9 m9 nd9 : Nat} {co9 ca9 pc9 ra9 rb9 sp9 mk9 dp9 fc9 fa9 fb9 fm9 sl9 st9 lf9 su9 pg9 ss9 ql9 qs9 qr9 hd9 fl9 ek9 ep9 ev9 er9 : Nat → Int32}, m9 ≤ 128 → L9 ≤ 63 → pv_T nd9 L9 m9 rt0 st0 rt1 st1 y10 y11 y12 y13 y14 y15 y16 y17 y18 y19 y20 y21 co9 dp9 sp9 fc9 fa9 fb9 fm9 lf9 pg9 ss9 ql9 qs9 qr9 hd9 ek9 ep9 ev9 er9 → J rt0 st0 rt1 st1 y10 y11 y12 y13 y14 y15 y16 y17 y18 y19 y20 y21 (nI (i + 3)) (nI 2) (nI nd9) (nI L9) (nI m9) (nI m9) co9 ca9 pc9 ra9 rb9 sp9 mk9 dp9 fc9 fa9 fb9 fm9 sl9 st9 lf9 su9 pg9 ss9 ql9 qs9 qr9 hd9 fl9 ek9 ep9 ev9 er9) : wL_law_953 (fun r => r = 1) N xs J rt0 st0 rt1 st1 y10 y11 y12 y13 y14 y15 y16 y17 y18 y19 y20 y21 (nI i)  kc ks (nI 2) (nI nd) (nI L) (nI m) (nI es) co ca pc ra rb sp mk dp fc fa fb fm sl st lf su pg ss ql qs qr hd fl ek ep ev er := by
  unfold wL_law_953
  refine sx_lt ?_
  by_cases h : m ≤ 128
  · have e : es = m := by omega
    subst e
    obtain ⟨a, b⟩ := hT.2.1 h
    refine br_t (nI_le (b := 128) h (by decide)) ?_
    refine pv_so (p := 0) (L := L) (by decide) h hL (a 0 (by decide)) ?_
    refine br_f (by decide) ?_
    refine pv_so (p := 1) (L := L) (by decide) h hL (a 1 (by decide)) ?_
    refine br_f (by decide) ?_
    refine pv_lo (L := L) h hL (a 0 (by decide)) (a 1 (by decide)) b ?_
    refine br_f (by decide) (nm_r (nI_add i 3) ?_)
    exact HJ h hL hT
  · exact br_f (nI_ge (a := 128) (by omega) (by omega)) rfl
theorem pv_S0 (hm : m ≤ 128) (hT : pv_T nd L m rt0 st0 rt1 st1 y10 y11 y12 y13 y14 y15 y16 y17 y18 y19 y20 y21 co dp sp fc fa fb fm lf pg ss ql qs qr hd ek ep ev er) : pv_S L (pv_B rt0) (pv_B st0) ∧ pv_S L (pv_B rt1) (pv_B st1) := by
  obtain ⟨_, _, _, a0⟩ := (hT.2.1 hm).1 0 (by decide)
  obtain ⟨_, _, _, a1⟩ := (hT.2.1 hm).1 1 (by decide)
  exact ⟨a0.1, a1.1⟩
theorem pv_789 {p g : Nat} (hp : p < 2) (h1 : 1 ≤ g) (hg : g < 32) (hm : m ≤ 128) (hL : L ≤ 63) (hT : pv_T nd L m rt0 st0 rt1 st1 y10 y11 y12 y13 y14 y15 y16 y17 y18 y19 y20 y21 co dp sp fc fa fb fm lf pg ss ql qs qr hd ek ep ev er) (HJ : ∀ {rt0 st0 rt1 st1 : Int64} {y10 y11 y12 y13 y14 y15 y16 y17 y18 y19 y20 y21 : Int32} {L9 m9 nd9 : Nat} {co9 ca9 pc9 ra9 rb9 sp9 mk9 dp9 fc9 fa9 fb9 fm9 sl9 st9 lf9 su9 pg9 ss9 ql9 qs9 qr9 hd9 fl9 ek9 ep9 ev9 er9 : Nat → Int32}, m9 ≤ 128 → L9 ≤ 63 → pv_T nd9 L9 m9 rt0 st0 rt1 st1 y10 y11 y12 y13 y14 y15 y16 y17 y18 y19 y20 y21 co9 dp9 sp9 fc9 fa9 fb9 fm9 lf9 pg9 ss9 ql9 qs9 qr9 hd9 ek9 ep9 ev9 er9 → J rt0 st0 rt1 st1 y10 y11 y12 y13 y14 y15 y16 y17 y18 y19 y20 y21 (nI (i + 3)) (nI 2) (nI nd9) (nI L9) (nI m9) (nI m9) co9 ca9 pc9 ra9 rb9 sp9 mk9 dp9 fc9 fa9 fb9 fm9 sl9 st9 lf9 su9 pg9 ss9 ql9 qs9 qr9 hd9 fl9 ek9 ep9 ev9 er9) : wL_law_789 (fun r => r = 1) N xs J rt0 st0 rt1 st1 y10 y11 y12 y13 y14 y15 y16 y17 y18 y19 y20 y21 (nI i) (nI p) (nI g) kc ks (nI 2) (nI nd) (nI L) (nI m) (nI m) co ca pc ra rb sp mk dp fc fa fb fm sl st lf su pg ss ql qs qr hd fl ek ep ev er := by
  obtain ⟨hS0, hS1⟩ := pv_S0 hm hT
  obtain ⟨hx, hG, hW⟩ := hT
  have hnew : ¬ pv_B (((rt0 ||| st0) ||| rt1) ||| st1) (L + 1) := fun z => by
    rcases (pv_B_or _ _ _).mp z with z | z
    · rcases (pv_B_or _ _ _).mp z with z | z
      · rcases (pv_B_or _ _ _).mp z with z | z
        · have := (hS0.1 _ z).2; omega
        · have := (hS0.2.1 _ z).2; omega
      · have := (hS1.1 _ z).2; omega
    · have := (hS1.2.1 _ z).2; omega
  unfold wL_law_789
  refine pv_send (R := pv_R rt0 rt1) (T := pv_R st0 st1) (m := m) (L := L) hp (by omega) h1 hg hx (by omega) hG (fun S => ?_)
  obtain ⟨hx1, m1, rfl, hm1, hmm, hc⟩ := S
  rcases hc with ⟨hr, rfl, hG1⟩ | ⟨rfl, rfl, g16, hG1⟩ | ⟨rfl, rfl, g16, hG1⟩
  · refine br_t (Int32.le_trans hr (by decide)) (br_t hr ?_)
    unfold wL_law_893
    exact pv_953 hm1 (by omega) hL ⟨hx1, hG1, hW⟩ HJ
  · by_cases hL1 : L + 1 ≤ 63
    · refine br_t (nI_le (b := 63) hL1 (by decide)) (br_f (nI_nle (by omega) (by omega)) ?_)
      refine pv_has (by omega) (fun _ hb => absurd hb hnew) (fun _ => ?_)
      refine br_t rfl (nm_e (br_t (nI_lt (b := 16) g16 (by decide)) ?_))
      have : p = 0 ∨ p = 1 := by omega
      rcases this with rfl | rfl
      · refine br_t rfl (nm_e ?_)
        unfold wL_law_893
        exact pv_953 hm1 (by omega) hL1 ⟨hx1, by rw [pv_R_add0 (by omega)]; exact hG1, hW⟩ HJ
      · refine br_f (by decide) (nm_e ?_)
        unfold wL_law_893
        exact pv_953 hm1 (by omega) hL1 ⟨hx1, by rw [pv_R_add1 (by omega)]; exact hG1, hW⟩ HJ
    · exact br_f (nI_ge (a := 63) (by omega) (by omega)) rfl
  · by_cases hL1 : L + 1 ≤ 63
    · refine br_t (nI_le (b := 63) hL1 (by decide)) (br_f (nI_nle (by omega) (by omega)) ?_)
      refine pv_has (by omega) (fun _ hb => absurd hb hnew) (fun _ => ?_)
      refine br_t rfl (nm_e (br_f (nI_nlt (b := 16) g16 (by omega)) ?_))
      have : p = 0 ∨ p = 1 := by omega
      rcases this with rfl | rfl
      · refine br_t rfl (nm_e ?_)
        unfold wL_law_893
        exact pv_953 hm1 (by omega) hL1 ⟨hx1, by rw [pv_R_add0 (by omega)]; exact hG1, hW⟩ HJ
      · refine br_f (by decide) (nm_e ?_)
        unfold wL_law_893
        exact pv_953 hm1 (by omega) hL1 ⟨hx1, by rw [pv_R_add1 (by omega)]; exact hG1, hW⟩ HJ
    · exact br_f (nI_ge (a := 63) (by omega) (by omega)) rfl
theorem pv_seta {post : Int32 → St2 → Prop} {p : Nat} {k x f : Int32} (hp : p < 2) (hx : pv_X nd co dp ql qs hd) (K : ∀ (r : Int32) {hd1 fl1 : Nat → Int32}, pv_X nd co dp ql qs hd1 → post r (nI 2, nI nd, ls, et, nI es, co, ca, pc, ra, rb, sp, mk, dp, fc, fa, fb, fm, sl, st, lf, su, pg, ss, ql, qs, qr, hd1, fl1, ek, ep, ev, er)) : wpX_setAction post (nI 2, nI nd, ls, et, nI es, co, ca, pc, ra, rb, sp, mk, dp, fc, fa, fb, fm, sl, st, lf, su, pg, ss, ql, qs, qr, hd, fl, ek, ep, ev, er) (nI p) k x f := by
  by_cases hl : lf p = 0
  · rcases sk_cat k with hk | ⟨g, h1, hg, h9, h15, rfl⟩
    · exact sx_seta0 (np := 2) hp (by decide) hl hk (K _ hx)
    · rcases sk_hd x with hxx | ⟨n1, n2, hxx⟩
      · have hx' : x = -2 ∨ x = -1 ∨ 0 ≤ x := hxx.imp_right fun z => z.imp_right fun ⟨j, hj, e⟩ => by rw [e]; exact nI_pos' (by omega)
        exact sx_seta1 (np := 2) hp (by decide) hl h1 hg h9 h15 hxx (K _ ⟨hx.1, hx.2.1, hx.2.2.1, hx.2.2.2.1, sk_HD_u hx.2.2.2.2 hx'⟩)
      · exact sx_seta2 (np := 2) hp (by decide) hl h1 hg h9 h15 n1 n2 hxx (K _ hx)
  · unfold wpX_setAction
    refine sx_al2 (np := 2) hp (by decide) hl ?_
    exact br_t rfl (K _ hx)
theorem pv_927 {p : Nat} {x24 x25 z0 : Int32} (hp : p < 2) (hm : m ≤ 128) (hL : L ≤ 63) (hT : pv_T nd L m rt0 st0 rt1 st1 y10 y11 y12 y13 y14 y15 y16 y17 y18 y19 y20 y21 co dp sp fc fa fb fm lf pg ss ql qs qr hd ek ep ev er) (HJ : ∀ {rt0 st0 rt1 st1 : Int64} {y10 y11 y12 y13 y14 y15 y16 y17 y18 y19 y20 y21 : Int32} {L9 m9 nd9 : Nat} {co9 ca9 pc9 ra9 rb9 sp9 mk9 dp9 fc9 fa9 fb9 fm9 sl9 st9 lf9 su9 pg9 ss9 ql9 qs9 qr9 hd9 fl9 ek9 ep9 ev9 er9 : Nat → Int32}, m9 ≤ 128 → L9 ≤ 63 → pv_T nd9 L9 m9 rt0 st0 rt1 st1 y10 y11 y12 y13 y14 y15 y16 y17 y18 y19 y20 y21 co9 dp9 sp9 fc9 fa9 fb9 fm9 lf9 pg9 ss9 ql9 qs9 qr9 hd9 ek9 ep9 ev9 er9 → J rt0 st0 rt1 st1 y10 y11 y12 y13 y14 y15 y16 y17 y18 y19 y20 y21 (nI (i + 3)) (nI 2) (nI nd9) (nI L9) (nI m9) (nI m9) co9 ca9 pc9 ra9 rb9 sp9 mk9 dp9 fc9 fa9 fb9 fm9 sl9 st9 lf9 su9 pg9 ss9 ql9 qs9 qr9 hd9 fl9 ek9 ep9 ev9 er9) : wL_law_927 (fun r => r = 1) N xs J rt0 st0 rt1 st1 y10 y11 y12 y13 y14 y15 y16 y17 y18 y19 y20 y21 (nI i) x24 x25 (nI p) z0 kc ks (nI 2) (nI nd) (nI L) (nI m) (nI m) co ca pc ra rb sp mk dp fc fa fb fm sl st lf su pg ss ql qs qr hd fl ek ep ev er := by
  obtain ⟨hx, hG, hW⟩ := hT
  unfold wL_law_927
  refine ⟨by decide, ?_⟩
  refine pv_seta hp hx (fun r => ?_)
  intro hd1 fl1 hx1
  exact pv_953 (by omega) (by omega) hL ⟨hx1, hG, hW⟩ HJ
theorem pv_561s {d : Nat} (hdd : d ≤ 2) (hm : es = min m 128) (hm2 : m ≤ 1000) (hL : L ≤ 63) (hT : pv_T nd L m rt0 st0 rt1 st1 y10 y11 y12 y13 y14 y15 y16 y17 y18 y19 y20 y21 co dp sp fc fa fb fm lf pg ss ql qs qr hd ek ep ev er) (HJ : ∀ {rt0 st0 rt1 st1 : Int64} {y10 y11 y12 y13 y14 y15 y16 y17 y18 y19 y20 y21 : Int32} {L9 m9 nd9 : Nat} {co9 ca9 pc9 ra9 rb9 sp9 mk9 dp9 fc9 fa9 fb9 fm9 sl9 st9 lf9 su9 pg9 ss9 ql9 qs9 qr9 hd9 fl9 ek9 ep9 ev9 er9 : Nat → Int32}, m9 ≤ 128 → L9 ≤ 63 → pv_T nd9 L9 m9 rt0 st0 rt1 st1 y10 y11 y12 y13 y14 y15 y16 y17 y18 y19 y20 y21 co9 dp9 sp9 fc9 fa9 fb9 fm9 lf9 pg9 ss9 ql9 qs9 qr9 hd9 ek9 ep9 ev9 er9 → J rt0 st0 rt1 st1 y10 y11 y12 y13 y14 y15 y16 y17 y18 y19 y20 y21 (nI (i + 3)) (nI 2) (nI nd9) (nI L9) (nI m9) (nI m9) co9 ca9 pc9 ra9 rb9 sp9 mk9 dp9 fc9 fa9 fb9 fm9 sl9 st9 lf9 su9 pg9 ss9 ql9 qs9 qr9 hd9 fl9 ek9 ep9 ev9 er9) : wL_law_561 (fun r => r = 1) N xs J rt0 st0 rt1 st1 y10 y11 y12 y13 y14 y15 y16 y17 y18 y19 y20 y21 (nI i) (nI d) (nI d) kc ks (nI 2) (nI nd) (nI L) (nI m) (nI es) co ca pc ra rb sp mk dp fc fa fb fm sl st lf su pg ss ql qs qr hd fl ek ep ev er := by
  have hc : d = 0 ∨ d = 1 ∨ d = 2 := by omega
  unfold wL_law_561
  refine br_f (by rcases hc with rfl | rfl | rfl <;> decide) ?_
  unfold wL_law_743
  refine br_t rfl ?_
  unfold wL_law_756
  exact pv_953 hm hm2 hL hT HJ
theorem pv_561p {d : Nat} (hdd : d < 2) (hm : es = min m 128) (hm2 : m ≤ 1000) (hL : L ≤ 63) (h0 : d = 0 → pv_T nd L m rt0 st0 rt1 st1 0 y11 y12 y13 y14 y15 y16 y17 y18 y19 y20 y21 co dp sp fc fa fb fm lf pg ss ql qs qr hd ek ep ev er) (h1 : d = 1 → pv_T nd L m rt0 st0 rt1 st1 y10 0 y12 y13 y14 y15 y16 y17 y18 y19 y20 y21 co dp sp fc fa fb fm lf pg ss ql qs qr hd ek ep ev er)
    (g0 : d = 0 → ¬ y10 = 0 → pc 0 = y12 ∧ ra 0 = y13 ∧ rb 0 = y14 ∧ mk 0 = y15 ∧ sp 0 = y16) (g1 : d = 1 → ¬ y11 = 0 → pc 0 = y17 ∧ ra 0 = y18 ∧ rb 0 = y19 ∧ mk 0 = y20 ∧ sp 0 = y21) (HJ : ∀ {rt0 st0 rt1 st1 : Int64} {y10 y11 y12 y13 y14 y15 y16 y17 y18 y19 y20 y21 : Int32} {L9 m9 nd9 : Nat} {co9 ca9 pc9 ra9 rb9 sp9 mk9 dp9 fc9 fa9 fb9 fm9 sl9 st9 lf9 su9 pg9 ss9 ql9 qs9 qr9 hd9 fl9 ek9 ep9 ev9 er9 : Nat → Int32}, m9 ≤ 128 → L9 ≤ 63 → pv_T nd9 L9 m9 rt0 st0 rt1 st1 y10 y11 y12 y13 y14 y15 y16 y17 y18 y19 y20 y21 co9 dp9 sp9 fc9 fa9 fb9 fm9 lf9 pg9 ss9 ql9 qs9 qr9 hd9 ek9 ep9 ev9 er9 → J rt0 st0 rt1 st1 y10 y11 y12 y13 y14 y15 y16 y17 y18 y19 y20 y21 (nI (i + 3)) (nI 2) (nI nd9) (nI L9) (nI m9) (nI m9) co9 ca9 pc9 ra9 rb9 sp9 mk9 dp9 fc9 fa9 fb9 fm9 sl9 st9 lf9 su9 pg9 ss9 ql9 qs9 qr9 hd9 fl9 ek9 ep9 ev9 er9) : wL_law_561 (fun r => r = 1) N xs J rt0 st0 rt1 st1 y10 y11 y12 y13 y14 y15 y16 y17 y18 y19 y20 y21 (nI i) (nI (d + 1)) (nI d) kc ks (nI 2) (nI nd) (nI L) (nI m) (nI es) co ca pc ra rb sp mk dp fc fa fb fm sl st lf su pg ss ql qs qr hd fl ek ep ev er := by
  have end0 : d = 0 → wL_law_726 (fun r => r = 1) N xs J rt0 st0 rt1 st1 y10 y11 y12 y13 y14 y15 y16 y17 y18 y19 y20 y21 (nI i) (nI d) kc ks (nI 2) (nI nd) (nI L) (nI m) (nI es) co ca pc ra rb sp mk dp fc fa fb fm sl st lf su pg ss ql qs qr hd fl ek ep ev er := fun z => by
    subst z
    unfold wL_law_726
    refine br_t rfl ?_
    unfold wL_law_756
    exact pv_953 hm hm2 hL (h0 rfl) HJ
  have end1 : d = 1 → wL_law_726 (fun r => r = 1) N xs J rt0 st0 rt1 st1 y10 y11 y12 y13 y14 y15 y16 y17 y18 y19 y20 y21 (nI i) (nI d) kc ks (nI 2) (nI nd) (nI L) (nI m) (nI es) co ca pc ra rb sp mk dp fc fa fb fm sl st lf su pg ss ql qs qr hd fl ek ep ev er := fun z => by
    subst z
    unfold wL_law_726
    refine br_f (by decide) ?_
    unfold wL_law_756
    exact pv_953 hm hm2 hL (h1 rfl) HJ
  unfold wL_law_561
  refine br_t (nI_pred d).symm (br_f (nI_pos (by omega)) (br_f (nI_ge (b := 2) hdd (by decide)) ?_))
  have hc : d = 0 ∨ d = 1 := by omega
  rcases hc with rfl | rfl
  · refine br_t rfl (br_c (fun _ => end0 rfl) fun z => ?_)
    obtain ⟨e1, e2, e3, e4, e5⟩ := g0 rfl z
    unfold wL_law_599
    refine br_t rfl ?_
    unfold wL_law_611
    refine br_t rfl ?_
    unfold wL_law_625
    refine br_t rfl ?_
    unfold wL_law_639
    refine br_t rfl ?_
    unfold wL_law_653
    refine br_t rfl ?_
    unfold wL_law_667
    refine sx_reg0 (p := 0) (by decide) (br_t e1 ?_)
    refine sx_reg1 (p := 0) (by decide) (br_t e2 ?_)
    refine sx_reg2 (p := 0) (by decide) (br_t e3 ?_)
    refine sx_reg4 (p := 0) (by decide) (br_t e4 ?_)
    refine sx_reg3 (p := 0) (by decide) (br_t e5 ?_)
    exact end0 rfl
  · refine br_f (by decide) (br_c (fun _ => end1 rfl) fun z => ?_)
    obtain ⟨e1, e2, e3, e4, e5⟩ := g1 rfl z
    unfold wL_law_599
    refine br_f (by decide) ?_
    unfold wL_law_611
    refine br_f (by decide) ?_
    unfold wL_law_625
    refine br_f (by decide) ?_
    unfold wL_law_639
    refine br_f (by decide) ?_
    unfold wL_law_653
    refine br_f (by decide) ?_
    unfold wL_law_667
    refine sx_reg0 (p := 0) (by decide) (br_t e1 ?_)
    refine sx_reg1 (p := 0) (by decide) (br_t e2 ?_)
    refine sx_reg2 (p := 0) (by decide) (br_t e3 ?_)
    refine sx_reg4 (p := 0) (by decide) (br_t e4 ?_)
    refine sx_reg3 (p := 0) (by decide) (br_t e5 ?_)
    exact end1 rfl
/-- the law's word of the handlers that restart -/
def pv_rb (x : Int32) (fl : Nat → Int32) (k : Nat) : Prop := ∀ g, g < 32 → (bt x g = true ↔ 1 ≤ g ∧ g < k ∧ ¬ fl (0 * 32 + g) &&& 1 = 0)
theorem pv_rbit {x : Int32} {g : Nat} (hg : g < 32) : ((x.toUInt32 >>> ((nI g).toUInt32 &&& Int32.toUInt32 31)).toInt32 &&& 1) = 0 ↔ bt x g = false := by
  rw [nf_bit x g hg, sk_and0 hg]
theorem pv_437 {d g : Nat} {p0 a0 b k s l0 x35 : Int32} {sl' pc' ra' fl' : Nat → Int32} (hdd : d < 2) (h1 : 1 ≤ g) (hg : g < 32) (hm : es = min m 128) (hm2 : m ≤ 1000) (hL : L ≤ 63) (hrb : pv_rb x35 fl' 32) (e1 : sl' 0 = l0) (e2 : pc' 0 = p0) (e3 : ra' 0 = a0)
    (hT : ∀ c a, c = sk_itC sl' pc' 0 (fl' (0 * 32 + g)) → a = sk_itA sl' ra' 0 (fl' (0 * 32 + g)) → (d = 0 → pv_T nd L m rt0 st0 rt1 st1 1 y11 c a b k s y17 y18 y19 y20 y21 co dp sp fc fa fb fm lf pg ss ql qs qr hd ek ep ev er) ∧ (d = 1 → pv_T nd L m rt0 st0 rt1 st1 y10 1 y12 y13 y14 y15 y16 c a b k s co dp sp fc fa fb fm lf pg ss ql qs qr hd ek ep ev er)) (HJ : ∀ {rt0 st0 rt1 st1 : Int64} {y10 y11 y12 y13 y14 y15 y16 y17 y18 y19 y20 y21 : Int32} {L9 m9 nd9 : Nat} {co9 ca9 pc9 ra9 rb9 sp9 mk9 dp9 fc9 fa9 fb9 fm9 sl9 st9 lf9 su9 pg9 ss9 ql9 qs9 qr9 hd9 fl9 ek9 ep9 ev9 er9 : Nat → Int32}, m9 ≤ 128 → L9 ≤ 63 → pv_T nd9 L9 m9 rt0 st0 rt1 st1 y10 y11 y12 y13 y14 y15 y16 y17 y18 y19 y20 y21 co9 dp9 sp9 fc9 fa9 fb9 fm9 lf9 pg9 ss9 ql9 qs9 qr9 hd9 ek9 ep9 ev9 er9 → J rt0 st0 rt1 st1 y10 y11 y12 y13 y14 y15 y16 y17 y18 y19 y20 y21 (nI (i + 3)) (nI 2) (nI nd9) (nI L9) (nI m9) (nI m9) co9 ca9 pc9 ra9 rb9 sp9 mk9 dp9 fc9 fa9 fb9 fm9 sl9 st9 lf9 su9 pg9 ss9 ql9 qs9 qr9 hd9 fl9 ek9 ep9 ev9 er9) : wL_law_437 (fun r => r = 1) N xs J rt0 st0 rt1 st1 y10 y11 y12 y13 y14 y15 y16 y17 y18 y19 y20 y21 (nI i) (nI d) p0 a0 b k s l0 x35 (nI g) kc ks (nI 2) (nI nd) (nI L) (nI m) (nI es) co ca pc ra rb sp mk dp fc fa fb fm sl st lf su pg ss ql qs qr hd fl ek ep ev er := by
  have fin : ∀ c a, c = sk_itC sl' pc' 0 (fl' (0 * 32 + g)) → a = sk_itA sl' ra' 0 (fl' (0 * 32 + g)) → wL_law_502 (fun r => r = 1) N xs J rt0 st0 rt1 st1 y10 y11 y12 y13 y14 y15 y16 y17 y18 y19 y20 y21 (nI i) (nI d) b k s c a kc ks (nI 2) (nI nd) (nI L) (nI m) (nI es) co ca pc ra rb sp mk dp fc fa fb fm sl st lf su pg ss ql qs qr hd fl ek ep ev er := fun c a ec ea => by
    obtain ⟨t0, t1⟩ := hT c a ec ea
    have hc : d = 0 ∨ d = 1 := by omega
    unfold wL_law_502
    rcases hc with rfl | rfl
    · refine br_t rfl ?_
      unfold wL_law_558 wL_law_756
      exact pv_953 hm hm2 hL (t0 rfl) HJ
    · refine br_f (by decide) ?_
      unfold wL_law_558 wL_law_756
      exact pv_953 hm hm2 hL (t1 rfl) HJ
  have no : ¬ (0 < sl' 0 ∧ fl' (0 * 32 + g) &&& 1 = 0) → wL_law_471 (fun r => r = 1) N xs J rt0 st0 rt1 st1 y10 y11 y12 y13 y14 y15 y16 y17 y18 y19 y20 y21 (nI i) (nI d) p0 a0 b k s kc ks (nI 2) (nI nd) (nI L) (nI m) (nI es) co ca pc ra rb sp mk dp fc fa fb fm sl st lf su pg ss ql qs qr hd fl ek ep ev er := fun z => by
    unfold wL_law_471 wL_law_472
    refine br_t rfl ?_
    unfold wL_law_488
    refine br_t rfl ?_
    exact fin _ _ (by unfold sk_itC; rw [if_neg z, e2]) (by unfold sk_itA; rw [if_neg z, e3])
  unfold wL_law_437
  refine br_f (nI_nlt (b := 1) h1 (by omega)) (br_t (nI_le (b := 31) (by omega) (by decide)) (br_c (fun z => ?_) fun z => br_c (fun y => ?_) fun y => ?_))
  · exact no fun y => absurd y.1 (by rw [e1]; exact Int32.not_lt.mpr z)
  · have y' := (pv_rbit hg).mp y
    have f1 : fl' (0 * 32 + g) &&& 1 = 0 := Classical.byContradiction fun t => by
      have := (hrb g hg).mpr ⟨h1, hg, t⟩
      rw [this] at y'
      exact absurd y' (by decide)
    have yy : 0 < sl' 0 ∧ fl' (0 * 32 + g) &&& 1 = 0 := ⟨by rw [e1]; exact Int32.not_le.mp z, f1⟩
    unfold wL_law_472
    refine br_f (by decide) ?_
    unfold wL_law_488
    refine br_f (by decide) ?_
    exact fin _ _ (by unfold sk_itC; rw [if_pos yy, e2]) (by unfold sk_itA; rw [if_pos yy])
  · have y' : bt x35 g = true := ts_nf fun t => y ((pv_rbit hg).mpr t)
    exact no fun t => ((hrb g hg).mp y').2.2 t.2
theorem pv_389 {d g : Nat} {p0 a0 b k s l0 x35 : Int32} {j m2 : Nat} (hj : j < m2) (hm2 : m2 ≤ 128) (he : es = m2) (h1 : 1 ≤ g) (hg : g < 32) (k1 : ek j = 1) (k2 : ep j = nI 0) (k3 : ev j = nI g) (H : wL_law_437 (fun r => r = 1) N xs J rt0 st0 rt1 st1 y10 y11 y12 y13 y14 y15 y16 y17 y18 y19 y20 y21 (nI i) (nI d) p0 a0 b k s l0 x35 (nI g) kc ks (nI 2) (nI nd) (nI L) (nI m) (nI es) co ca pc ra rb sp mk dp fc fa fb fm sl st lf su pg ss ql qs qr hd fl ek ep ev er) : ∃ fu389, wL_law_389 (fun r => r = 1) N xs J rt0 st0 rt1 st1 y10 y11 y12 y13 y14 y15 y16 y17 y18 y19 y20 y21 (nI i) (nI d) p0 a0 b k s l0 x35 (nI m2) kc ks (nI 2) (nI nd) (nI L) (nI m) (nI es) co ca pc ra rb sp mk dp fc fa fb fm sl st lf su pg ss ql qs qr hd fl ek ep ev er fu389 0 (nI j) := by
  subst he
  refine ⟨2, ?_⟩
  rw [wL_law_389]
  refine br_f (nI_ge hj (by omega)) (br_t rfl ?_)
  refine sx_lf0 hj hm2 (br_t k1 ?_)
  refine sx_lf1 hj hm2 (br_t k2 ?_)
  refine sx_lf2 hj hm2 (nm_e ?_)
  rw [k3, wL_law_389]
  exact br_c (fun _ => H) fun _ => br_f (nI_ne0 h1 (by omega)) H
end
