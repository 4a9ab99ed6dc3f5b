-- the law's program: what its names are
section PQ
variable {E : EnvN} {w w' : Int64} {s m j a b n f k k' : Nat} {D : Den} {v : Int64} {l : Int32} {c : Cx} {t : Tk} {B R : List Int32} {X : Except En EnvN} {mv : MV}
theorem lk_add (h : EnvOK E) : ∀ n, n ≤ E.nn → lkE (E.add w s D v l) w' n = lkE E w' n
  | 0, _ => rfl
  | n+1, hn => by
    have e1 : (E.add w s D v l).wd n = E.wd n := eUp_n (by omega)
    have e2 : (E.add w s D v l).so n = E.so n := eUp_n (by omega)
    have e3 : (E.add w s D v l).no n = E.no n := eUp_n (by omega)
    have e4 : (E.add w s D v l).dn (E.so n) (E.no n) = E.dn (E.so n) (E.no n) := by
      show (if E.so n = s then eUp (E.dn (E.so n)) (E.ct s) D else E.dn (E.so n)) (E.no n) = _
      by_cases z : E.so n = s
      · rw [if_pos z]
        have := (h.2.2.1 n (by omega)).2
        rw [z] at this ⊢
        exact eUp_n (by omega)
      · rw [if_neg z]
    rw [lkE, lkE, e1, e2, e3, e4, lk_add h n (by omega)]
theorem gm_add (h : EnvOK E) : gmE (E.add w s D v l) w' = if w = w' then some (nI s, nI (E.ct s), D) else gmE E w' := by
  have e1 : (E.add w s D v l).wd E.nn = w := eUp_s
  have e2 : (E.add w s D v l).so E.nn = s := eUp_s
  have e3 : (E.add w s D v l).no E.nn = E.ct s := eUp_s
  have e4 : (E.add w s D v l).dn s (E.ct s) = D := by
    show (if s = s then eUp (E.dn s) (E.ct s) D else E.dn s) (E.ct s) = _
    rw [if_pos rfl, eUp_s]
  show lkE (E.add w s D v l) w' (E.nn + 1) = _
  rw [lkE, e1, e2, e3, e4, lk_add h E.nn (Nat.le_refl _)]
  rfl
/-- what a new name makes of the names -/
def NewE (E : EnvN) (w : Int64) (s : Nat) (D : Den) (E' : EnvN) : Prop := EnvOK E' ∧ (∀ w', gmE E' w' = if w = w' then some (nI s, nI (E.ct s), D) else gmE E w') ∧ (∀ u, E'.ct u = if u = s then E.ct s + 1 else E.ct u) ∧ ∀ a b, E'.dn a b = if a = s ∧ b = E.ct s then D else E.dn a b
theorem newE (h : EnvOK E) (hs : s < 4) (hc : E.ct s < capE s) (hw : gmE E w = none) : NewE E w s D (E.add w s D v l) := by
  refine ⟨h.add hs hc hw, fun w' => gm_add h, fun u => ?_, fun a b => ?_⟩
  · show eUp E.ct s (E.ct s + 1) u = _
    unfold eUp; rfl
  · show (if a = s then eUp (E.dn a) (E.ct s) D else E.dn a) b = _
    by_cases z : a = s
    · rw [if_pos z]
      unfold eUp
      by_cases y : b = E.ct s
      · rw [if_pos y, if_pos ⟨z, y⟩]
      · rw [if_neg y, if_neg (fun q => y q.2)]
    · rw [if_neg z, if_neg (fun q => z q.1)]
theorem iAdd_ok (hs : soK (c.1 k) = s) (hw0 : c.2.2.1 (k + 1) = w) (hc : E.ct s < capE s) (hw : gmE E w = none) : iAdd E c k (.ok D) = .ok (E.add w s D (iFi c k) (iLv c k)) := by
  unfold iAdd iPre
  rw [hs, hw0, if_neg (by omega), if_pos hw]
theorem pg_step (hi : iForm (cxE t X) k = some (k', some mv)) (h53 : t.1 k' ≠ 53) : pgm t (f + 1) X k = pgm t f (xAdd t X k mv) k' := by
  rw [pgm, hi]
  exact if_neg h53
theorem pg_last (hi : iForm (cxE t X) k = some (k', some mv)) (h53 : t.1 k' = 53) : pgm t (f + 1) X k = some (k', some (xEnd t (xAdd t X k mv) k')) := by
  rw [pgm, hi]
  exact if_pos h53
theorem xAdd_ok (hs : soK (t.1 k) = s) (hw0 : t.2.2 (k + 1) = w) (hok : EnvOK E) (hs4 : s < 4) (hc : E.ct s < capE s) (hw : gmE E w = none) : ∃ E', xAdd t (.ok E) k (.ok D) = .ok E' ∧ NewE E w s D E' :=
  ⟨_, iAdd_ok (c := cxE t (.ok E)) hs hw0 hc hw, newE hok hs4 hc hw⟩
theorem pg_new (hi : iForm (cxE t (.ok E)) k = some (k', some (.ok D))) (h53 : t.1 k' ≠ 53) (hs : soK (t.1 k) = s) (hw0 : t.2.2 (k + 1) = w) (hok : EnvOK E) (hs4 : s < 4) (hc : E.ct s < capE s) (hw : gmE E w = none) : ∃ E', pgm t (f + 1) (.ok E) k = pgm t f (.ok E') k' ∧ NewE E w s D E' := by
  obtain ⟨E', e, hN⟩ := xAdd_ok (D := D) hs hw0 hok hs4 hc hw
  exact ⟨E', by rw [pg_step hi h53, e], hN⟩
/-- behind the signals and j lets -/
def InvE (j : Nat) (E : EnvN) : Prop := EnvOK E ∧ (E.ct 0 = 2 ∧ E.ct 1 = j ∧ E.ct 2 = 0 ∧ E.ct 3 = 0) ∧ ((∀ a, a < j → ∃ D, gmE E (wl a) = some (1, nI a, D)) ∧ (∃ D, gmE E w_x = some (0, 0, D)) ∧ ∃ D, gmE E w_y = some (0, 1, D)) ∧ (∀ a, j ≤ a → a < 10 → gmE E (wl a) = none) ∧ ∀ w, w ≠ w_x → w ≠ w_y → (∀ a, a < 10 → w ≠ wl a) → gmE E w = none
theorem InvE.next {E' : EnvN} (h : InvE j E) (hj : j < 10) (hN : NewE E (wl j) 1 D E') : InvE (j + 1) E' := by
  obtain ⟨h1, ⟨h2, h3, h4, h5⟩, ⟨h6, ⟨Dx, h7⟩, ⟨Dy, h8⟩⟩, h9, h10⟩ := h
  obtain ⟨n1, n2, n3, n4⟩ := hN
  have ne := wl_ne j hj
  refine ⟨n1, ⟨by rw [n3, if_neg (by decide)]; exact h2, by rw [n3, if_pos rfl, h3], by rw [n3, if_neg (by decide)]; exact h4, by rw [n3, if_neg (by decide)]; exact h5⟩, ⟨fun a ha => ?_, ⟨Dx, by rw [n2, if_neg ne.1]; exact h7⟩, ⟨Dy, by rw [n2, if_neg ne.2.1]; exact h8⟩⟩, fun a ha1 ha2 => ?_, fun w' e1 e2 e3 => ?_⟩
  · by_cases z : a = j
    · subst z
      exact ⟨D, by rw [n2, if_pos rfl, h3]; rfl⟩
    · obtain ⟨Da, e⟩ := h6 a (by omega)
      exact ⟨Da, by rw [n2, if_neg (wl_inj j hj a (by omega) (by omega))]; exact e⟩
  · rw [n2, if_neg (wl_inj j hj a ha2 (by omega))]; exact h9 a (by omega) ha2
  · rw [n2, if_neg (fun z => e3 j hj z.symm)]; exact h10 w' e1 e2 e3
/-- tokens of the program's text -/
def TkB (t : Tk) (B : List Int32) : Prop := ∀ j, t.1 j = (TK B j).1 ∧ t.2.2 j = (TK B j).2
theorem tAt_of {ts : List (Int32 × Int64)} (hT : TkB t B) (h : ∀ j, j < ts.length → TK B (n + j) = ts.getD j (53, 0)) : tAt (cxE t X) n ts := fun j hj => ⟨by
  show t.1 (n + j) = _
  rw [(hT _).1, h j hj], by
  show t.2.2 (n + j) = _
  rw [(hT _).2, h j hj]⟩
theorem pg_lets (hT : TkB t B) : ∀ (its : List (List Int32)) (j f n : Nat) (E : EnvN), InvE j E → (∀ i, i < its.length → ItOK (j + i) (its.getD i [])) → j + its.length ≤ 6 → Off B n (its.flatten ++ R) → n + 20 * its.length + 20 < 400 → (TK R 0).1 ≠ 53 → ∃ E' n', pgm t (f + its.length) (.ok E) n = pgm t f (.ok E') n' ∧ InvE (j + its.length) E' ∧ Off B n' R ∧ n' ≤ n + 20 * its.length
  | [], j, f, n, E, h, hI, hj, hO, hn, hR => ⟨E, n, rfl, h, hO, Nat.le_refl _⟩
  | A :: its, j, f, n, E, h, hI, hj, hO, hn, hR => by
    rw [List.length_cons] at hj hn
    obtain ⟨ts, p1, p2, p3, p4, p5, p6⟩ := hI 0 (by simp)
    have hO : Off B n (A ++ (its.flatten ++ R)) := by
      have := hO
      rw [List.flatten_cons, List.append_assoc] at this
      exact this
    obtain ⟨q1, q2⟩ := hO.step p1
    have hA : tAt (cxE t (.ok E)) n ts := tAt_of hT q1
    have hNm : Nms (cxE t (.ok E)) j := h.2.2.1
    obtain ⟨D, hD⟩ := p6 (cxE t (.ok E)) n hA (by omega) hNm
    have k0 : t.1 n = 1 := (hA 0 (by omega)).1.trans p4
    have k1 : t.2.2 (n + 1) = wl j := by
      have := (hA 1 (by omega)).2
      rw [p5] at this
      exact this
    have h53 : t.1 (n + ts.length) ≠ 53 := by
      have e : t.1 (n + ts.length) = (TK (its.flatten ++ R) 0).1 := by
        rw [(hT _).1]
        exact congrArg Prod.fst (q2 0)
      rw [e]
      cases its with
      | nil => exact hR
      | cons A' its' =>
        obtain ⟨ts', p1', p2', p3', p4', -, -⟩ := hI 1 (by simp)
        have e2 : (A' :: its').flatten ++ R = A' ++ (its'.flatten ++ R) := by rw [List.flatten_cons, List.append_assoc]
        have p1' : Pc A' ts' := p1'
        rw [e2, (p1' _).1 0 (by omega)]
        have p4' : (ts'.getD 0 (53, 0)).1 = 1 := p4'
        rw [p4']; decide
    obtain ⟨E1, e1, hN⟩ := pg_new (f := f + its.length) hD h53 (s := 1) (w := wl j) (by rw [k0]; decide) k1 h.1 (by decide) (by rw [h.2.1.2.1]; show j < 12; omega) (h.2.2.2.1 j (Nat.le_refl _) (by omega))
    have h' := h.next (by omega) hN
    obtain ⟨E', n', a1, a2, a3, a4⟩ := pg_lets hT its (j + 1) f (n + ts.length) E1 h' (fun i hi => by
      have := hI (i + 1) (by simpa using hi)
      rw [show j + (i + 1) = j + 1 + i by omega] at this
      exact this) (by omega) q2 (by omega) hR
    refine ⟨E', n', ?_, ?_, a3, ?_⟩
    · rw [List.length_cons, show f + (its.length + 1) = f + its.length + 1 by omega, e1, a1]
    · rw [List.length_cons, show j + (its.length + 1) = j + 1 + its.length by omega]; exact a2
    · rw [List.length_cons]; omega
theorem pg_sig (hT : TkB t B) (hO : Off B 0 (tSig ++ R)) (hR : (TK R 0).1 ≠ 53) : ∃ E', pgm t (f + 2) (.ok EnvN.none) 0 = pgm t f (.ok E') 10 ∧ InvE 0 E' ∧ Off B 10 R := by
  obtain ⟨q1, q2⟩ := hO.step pc_Sig
  have hA : ∀ X, tAt (cxE t X) 0 kSig := fun X => tAt_of hT q1
  have tk : ∀ j, j < 10 → t.1 j = (kSig.getD j (53, 0)).1 ∧ t.2.2 j = (kSig.getD j (53, 0)).2 := fun j hj => by
    have := hA (.ok EnvN.none) j hj
    rw [Nat.zero_add] at this
    exact this
  have i1 : iForm (cxE t (.ok EnvN.none)) 0 = some (5, some (.ok (zV, zR))) := it_signal (k := 0) (tk 0 (by decide)).1 (tk 1 (by decide)).1 (tk 2 (by decide)).1 (tk 3 (by decide)).1 (tk 4 (by decide)).1 (by decide)
  obtain ⟨E1, e1, n1, n2, n3, n4⟩ := pg_new (f := f + 1) i1 (by rw [(tk 5 (by decide)).1]; decide) (s := 0) (w := w_x) (by rw [(tk 0 (by decide)).1]; decide) (tk 1 (by decide)).2 EnvOK.none (by decide) (by decide) rfl
  have i2 : iForm (cxE t (.ok E1)) 5 = some (10, some (.ok (zV, zR))) := it_signal (k := 5) (tk 5 (by decide)).1 (tk 6 (by decide)).1 (tk 7 (by decide)).1 (tk 8 (by decide)).1 (tk 9 (by decide)).1 (by decide)
  have h53 : t.1 10 ≠ 53 := by
    have e : t.1 10 = (TK R 0).1 := by
      rw [(hT _).1]
      exact congrArg Prod.fst (q2 0)
    rw [e]; exact hR
  have g0 : ∀ w, gmE EnvN.none w = none := fun w => rfl
  obtain ⟨E2, e2, m1, m2, m3, m4⟩ := pg_new (f := f) i2 h53 (s := 0) (w := w_y) (by rw [(tk 5 (by decide)).1]; decide) (tk 6 (by decide)).2 n1 (by decide) (by rw [n3, if_pos rfl]; decide) (by rw [n2, if_neg (by decide)]; exact g0 _)
  refine ⟨E2, by rw [e1, e2], ⟨m1, ⟨by rw [m3, if_pos rfl, n3, if_pos rfl]; rfl, by rw [m3, if_neg (by decide), n3, if_neg (by decide)]; rfl, by rw [m3, if_neg (by decide), n3, if_neg (by decide)]; rfl, by rw [m3, if_neg (by decide), n3, if_neg (by decide)]; rfl⟩, ⟨fun a ha => absurd ha (Nat.not_lt_zero _), ⟨_, by rw [m2, if_neg (by decide), n2, if_pos rfl]; rfl⟩, ⟨_, by rw [m2, if_pos rfl, n3, if_pos rfl]; rfl⟩⟩, fun a _ ha => ?_, fun w e3 e4 _ => ?_⟩, q2⟩
  · rw [m2, if_neg (fun z => (wl_ne a ha).2.1 z.symm), n2, if_neg (fun z => (wl_ne a ha).1 z.symm)]; exact g0 _
  · rw [m2, if_neg (fun z => e4 z.symm), n2, if_neg (fun z => e3 z.symm)]; exact g0 _
-- the last items
theorem bd14 (h1 : c.2.2.1 k = 1) (h2 : c.2.2.1 j = 4) : bdM c k j = .ok (1, 4) := by
  unfold bdM nb
  rw [h1, h2, if_pos (by decide), if_neg (by decide), show Int64.toInt32 1 = 1 by decide, show Int64.toInt32 4 = 4 by decide]
theorem z_al (q0 : c.1 k = 1) (q1 : c.1 (k + 1) = 51) (q2 : c.1 (k + 2) = 38) (q3 : c.1 (k + 3) = 15) (q4 : c.1 (k + 4) = 51) (q5 : c.1 (k + 5) = 36) (hk : k + 20 < 400) : iForm c k = some (k + 6, some (nmF c (k + 4))) :=
  it_let q0 q1 q2 (by omega) (climb (d := 696) (g_is (d := 695) (k := k + 3) q3 q4 (by omega)) (Or.inl q5)) q5 (by omega)
theorem z_fr {s : Int32} (hs : s = 9 ∨ s = 10) (q0 : c.1 k = 1) (q1 : c.1 (k + 1) = 51) (q2 : c.1 (k + 2) = 38) (q3 : c.1 (k + 3) = s) (q4 : c.1 (k + 4) = 15) (q5 : c.1 (k + 5) = 51) (q6 : c.1 (k + 6) = 36) (hk : k + 20 < 400) (hD : nmF c (k + 5) = .ok D) : iForm c k = some (k + 7, some (.ok (dFront s (c.2.1 (k + 3)) 0 (-1) D))) := by
  have f1 : spX c 695 3 1 (k + 4) = some (k + 6, some (.ok D)) := by rw [← hD]; exact g_is (d := 694) (k := k + 4) q4 q5 (by omega)
  have f2 := g_bf0 (k := k + 3) (D := 0) (by rw [q3]; exact hs) (by omega) (by decide) (by rw [show c.1 (k + 3 + 1) = 15 from q4]; decide) f1
  rw [q3] at f2
  exact it_let q0 q1 q2 (by omega) (climb (d := 696) f2 (Or.inl q6)) q6 (by omega)
theorem z_si {D2 : Den} (q0 : c.1 k = 1) (q1 : c.1 (k + 1) = 51) (q2 : c.1 (k + 2) = 38) (q3 : c.1 (k + 3) = 15) (q4 : c.1 (k + 4) = 51) (q5 : c.1 (k + 5) = 11) (q6 : c.1 (k + 6) = 15) (q7 : c.1 (k + 7) = 51) (q8 : c.1 (k + 8) = 36) (hk : k + 20 < 400) (hD : nmF c (k + 4) = .ok D) (hD2 : nmF c (k + 7) = .ok D2) : iForm c k = some (k + 9, some (.ok (dSince (c.2.1 (k + 3)) 0 (-1) D D2))) := by
  have f1 : spX c 696 3 0 (k + 3) = some (k + 5, some (.ok D)) := by rw [← hD]; exact g_is (d := 695) (k := k + 3) q3 q4 (by omega)
  have f2 : spX c 696 3 0 (k + 6) = some (k + 8, some (.ok D2)) := by rw [← hD2]; exact g_is (d := 695) (k := k + 6) q6 q7 (by omega)
  have f3 : spX c 697 2 0 (k + 3) = some (k + 8, some (.ok _)) := g_since0 f1 q5 (by omega) (by rw [show c.1 (k + 5 + 1) = 15 from q6]; decide) f2
  exact it_let q0 q1 q2 (by omega) (climb2 (d := 697) f3 (Or.inl q8)) q8 (by omega)
theorem z_u (q0 : c.1 k = 1) (q1 : c.1 (k + 1) = 51) (q2 : c.1 (k + 2) = 38) (q3 : c.1 (k + 3) = 9) (q4 : c.1 (k + 4) = 34) (q5 : c.1 (k + 5) = 52) (q6 : c.1 (k + 6) = 50) (q7 : c.1 (k + 7) = 52) (q8 : c.1 (k + 8) = 35) (q9 : c.1 (k + 9) = 15) (q10 : c.1 (k + 10) = 51) (q11 : c.1 (k + 11) = 36) (n5 : c.2.2.1 (k + 5) = 1) (n7 : c.2.2.1 (k + 7) = 4) (hk : k + 20 < 400) (hD : nmF c (k + 10) = .ok D) : iForm c k = some (k + 12, some (.ok (dFront 9 (c.2.1 (k + 3)) 1 4 D))) := by
  have f1 : spX c 695 3 1 (k + 9) = some (k + 11, some (.ok D)) := by rw [← hD]; exact g_is (d := 694) (k := k + 9) q9 q10 (by omega)
  have f2 : spX c 696 3 0 (k + 3) = some (k + 11, some (.ok (dFront 9 (c.2.1 (k + 3)) 1 4 D))) := by
    have := g_bf1 (k := k + 3) (D := 0) (Or.inl q3) (by decide) q4 q5 q6 q7 q8 (by omega) f1
    rw [bd14 n5 n7, q3] at this
    exact this
  exact it_let q0 q1 q2 (by omega) (climb (d := 696) f2 (Or.inl q11)) q11 (by omega)
theorem z_v (q0 : c.1 k = 1) (q1 : c.1 (k + 1) = 51) (q2 : c.1 (k + 2) = 38) (q3 : c.1 (k + 3) = 10) (q4 : c.1 (k + 4) = 34) (q5 : c.1 (k + 5) = 52) (q6 : c.1 (k + 6) = 50) (q7 : c.1 (k + 7) = 52) (q8 : c.1 (k + 8) = 35) (q9 : c.1 (k + 9) = 5) (q10 : c.1 (k + 10) = 15) (q11 : c.1 (k + 11) = 51) (q12 : c.1 (k + 12) = 36) (n5 : c.2.2.1 (k + 5) = 1) (n7 : c.2.2.1 (k + 7) = 4) (hk : k + 20 < 400) (hD : nmF c (k + 11) = .ok D) : iForm c k = some (k + 13, some (.ok (dFront 10 (c.2.1 (k + 3)) 1 4 (dFront 5 (c.2.1 (k + 9)) 0 (-1) D)))) := by
  have f0 : spX c 694 3 2 (k + 10) = some (k + 12, some (.ok D)) := by rw [← hD]; exact g_is (d := 693) (k := k + 10) q10 q11 (by omega)
  have f1 : spX c 695 3 1 (k + 9) = some (k + 12, some (.ok (dFront 5 (c.2.1 (k + 9)) 0 (-1) D))) := by
    have := g_pre (k := k + 9) (D := 1) (Or.inl q9) (by omega) (by decide) f0
    rw [q9] at this
    exact this
  have f2 : spX c 696 3 0 (k + 3) = some (k + 12, some (.ok (dFront 10 (c.2.1 (k + 3)) 1 4 (dFront 5 (c.2.1 (k + 9)) 0 (-1) D)))) := by
    have := g_bf1 (k := k + 3) (D := 0) (Or.inr q3) (by decide) q4 q5 q6 q7 q8 (by omega) f1
    rw [bd14 n5 n7, q3] at this
    exact this
  exact it_let q0 q1 q2 (by omega) (climb (d := 696) f2 (Or.inl q12)) q12 (by omega)
theorem z_w (q0 : c.1 k = 3) (q1 : c.1 (k + 1) = 51) (q2 : c.1 (k + 2) = 37) (q3 : c.1 (k + 3) = 15) (q4 : c.1 (k + 4) = 51) (q5 : c.1 (k + 5) = 36) (hk : k + 20 < 400) : iForm c k = some (k + 6, some (nmF c (k + 4))) :=
  it_watch q0 q1 q2 (by omega) (climb (d := 696) (g_is (d := 695) (k := k + 3) q3 q4 (by omega)) (Or.inl q5)) q5 (by omega)
theorem z_z {m : MV} (q0 : c.1 k = 3) (q1 : c.1 (k + 1) = 51) (q2 : c.1 (k + 2) = 37) (q3 : c.1 (k + 3) = 5) (q4 : c.1 (k + 4) = 9) (q5 : c.1 (k + 5) = 5) (q6 : c.1 (k + 6) = 15) (q7 : c.1 (k + 7) = 51) (q8 : c.1 (k + 8) = 36) (hk : k + 20 < 400) (hD : nmF c (k + 7) = m) : iForm c k = some (k + 9, some (mvB (dFront 5 (c.2.1 (k + 3))) (.ok (0, -1)) (mvB (dFront 9 (c.2.1 (k + 4))) (.ok (0, -1)) (mvB (dFront 5 (c.2.1 (k + 5))) (.ok (0, -1)) m)))) := by
  have f0 : spX c 693 3 3 (k + 6) = some (k + 8, some m) := by rw [← hD]; exact g_is (d := 692) (k := k + 6) q6 q7 (by omega)
  have f1 := g_pre (k := k + 5) (D := 2) (Or.inl q5) (by omega) (by decide) f0
  rw [q5] at f1
  have f2 := g_bf0 (k := k + 4) (D := 1) (Or.inl q4) (by omega) (by decide) (by rw [show c.1 (k + 4 + 1) = 5 from q5]; decide) f1
  rw [q4] at f2
  have f3 := g_pre (k := k + 3) (D := 0) (Or.inl q3) (by omega) (by decide) f2
  rw [q3] at f3
  exact it_watch q0 q1 q2 (by omega) (climb (d := 696) f3 (Or.inl q8)) q8 (by omega)
/-- what the law's own lets and watches mean -/
def vN1 (A : Vl) : Vl := oV 0 0 0 (-1) 0 A zV zV
def vO1 (A : Vl) : Vl := oV 4 0 0 (-1) 0 A zV zV
def vA1 (A : Vl) : Vl := oV 5 0 0 (-1) 0 A zV zV
def SemE (m : Nat) (E : EnvN) : Prop := E.ct 0 = 2 ∧ E.ct 1 = m + 7 ∧ E.ct 3 = 2 ∧ ∃ (A G : Den) (i1 i2 : Int32), gmE E w_f = some (1, i1, A) ∧ gmE E w_g = some (1, i2, G) ∧ (E.dn 1 m).1 = A.1 ∧ (E.dn 1 (m + 1)).1 = G.1 ∧ (E.dn 1 (m + 2)).1 = vO1 A.1 ∧ (E.dn 1 (m + 3)).1 = vA1 A.1 ∧ (E.dn 1 (m + 4)).1 = oV 10 0 0 (-1) 0 A.1 G.1 zV ∧ (E.dn 1 (m + 5)).1 = oV 4 0 1 4 0 A.1 zV zV ∧ (E.dn 1 (m + 6)).1 = oV 5 0 1 4 0 (vN1 A.1) zV zV ∧ (E.dn 3 0).1 = vA1 A.1 ∧ (E.dn 3 1).1 = vN1 (vO1 (vN1 A.1))
theorem dF_5 {pl lo hi : Int32} {a : Den} : (dFront 5 pl lo hi a).1 = oV 0 0 lo hi 0 a.1 zV zV := rfl
theorem dF_9 {pl lo hi : Int32} {a : Den} : (dFront 9 pl lo hi a).1 = oV 4 0 lo hi 0 a.1 zV zV := rfl
theorem dF_10 {pl lo hi : Int32} {a : Den} : (dFront 10 pl lo hi a).1 = oV 5 0 lo hi 0 a.1 zV zV := rfl
/-- the text behind the parts -/
def finT (m : Nat) : List Int32 := (tFf ++ gLs (m - 1)) ++ ((tGg ++ gLs (m - 2)) ++ tZz)
theorem fin_tk (hT : TkB t B) (hm : 2 ≤ m) (hm6 : m ≤ 6) (hO : Off B n (finT m)) : (∀ X, tAt (cxE t X) n (kFf ++ [(51, wl (m - 1)), (36, 0)])) ∧ (∀ X, tAt (cxE t X) (n + 6) (kGg ++ [(51, wl (m - 2)), (36, 0)])) ∧ (∀ j, j < 63 → t.1 (n + 12 + j) = (kZz.getD j (53, 0)).1 ∧ t.2.2 (n + 12 + j) = (kZz.getD j (53, 0)).2) ∧ t.1 (n + 12 + 63) = 53 := by
  obtain ⟨a1, a2⟩ := hO.step (pc_Ff.app (pc_gLs (a := m - 1) (by omega)))
  obtain ⟨b1, b2⟩ := a2.step (pc_Gg.app (pc_gLs (a := m - 2) (by omega)))
  refine ⟨fun X => tAt_of hT a1, fun X => tAt_of hT b1, fun j hj => ?_, ?_⟩
  · have e : TK B (n + 12 + j) = kZz.getD j (53, 0) := (b2 j).trans (tkZz0 j hj)
    exact ⟨by rw [(hT _).1, e], by rw [(hT _).2, e]⟩
  · have e : TK B (n + 12 + 63) = (53, 0) := (b2 63).trans (TK_end tkZz1 0)
    rw [(hT _).1, e]
theorem pg_fin (hT : TkB t B) (hm : 2 ≤ m) (hm5 : m ≤ 5) (h : InvE m E) (hO : Off B n (finT m)) (hn : n < 200) : ∃ k' E', pgm t (f + 9) (.ok E) n = some (k', some (.ok E')) ∧ SemE m E' := by
  obtain ⟨F, G, Z, z63⟩ := fin_tk hT hm (by omega) hO
  obtain ⟨o0, ⟨c0, c1, c2, c3⟩, ⟨hl, -, -⟩, hl2, hno⟩ := h
  obtain ⟨A, hA⟩ := hl (m - 1) (by omega)
  obtain ⟨D2, hD2⟩ := hl (m - 2) (by omega)
  have nw : ∀ w, (w = w_f ∨ w = w_g ∨ w = w_h ∨ w = w_p ∨ w = w_q ∨ w = w_u ∨ w = w_v ∨ w = w_w ∨ w = w_z) → gmE E w = none := fun w hw => by
    refine hno w ?_ ?_ (fun a ha => ?_)
    · rcases hw with e | e | e | e | e | e | e | e | e <;> rw [e] <;> decide
    · rcases hw with e | e | e | e | e | e | e | e | e <;> rw [e] <;> decide
    · obtain ⟨_, _, q1, q2, q3, q4, q5, q6, q7, q8, q9⟩ := wl_ne a ha
      rcases hw with e | e | e | e | e | e | e | e | e <;> rw [e]
      · exact fun z => q1 z.symm
      · exact fun z => q2 z.symm
      · exact fun z => q3 z.symm
      · exact fun z => q4 z.symm
      · exact fun z => q5 z.symm
      · exact fun z => q6 z.symm
      · exact fun z => q7 z.symm
      · exact fun z => q8 z.symm
      · exact fun z => q9 z.symm
  -- f
  have fk := fun X j hj => (F X j hj).1
  have gk := fun X j hj => (G X j hj).1
  have i1 : iForm (cxE t (.ok E)) n = some (n + 6, some (.ok A)) := by
    have e : nmF (cxE t (.ok E)) (n + 4) = .ok A := nmF_ok (n := nI (m - 1)) (by rw [(F (.ok E) 4 (Nat.le_of_ble_eq_true rfl)).2]; exact hA)
    rw [← e]
    exact z_al (fk _ 0 (Nat.le_of_ble_eq_true rfl)) (fk _ 1 (Nat.le_of_ble_eq_true rfl)) (fk _ 2 (Nat.le_of_ble_eq_true rfl)) (fk _ 3 (Nat.le_of_ble_eq_true rfl)) (fk _ 4 (Nat.le_of_ble_eq_true rfl)) (fk _ 5 (Nat.le_of_ble_eq_true rfl)) (by omega)
  obtain ⟨E1, e1, o1, g1, t1, d1⟩ := pg_new (f := f + 8) i1 (by rw [show t.1 (n + 6) = 1 from (G (.ok E) 0 (Nat.le_of_ble_eq_true rfl)).1]; decide) (s := 1) (w := w_f) (by rw [show t.1 n = 1 from fk (.ok E) 0 (Nat.le_of_ble_eq_true rfl)]; decide) (F (.ok E) 1 (Nat.le_of_ble_eq_true rfl)).2 o0 (by decide) (by rw [c1]; show m < 12; omega) (nw w_f (by simp))
  have s1 : E1.ct 1 = m + 1 := by rw [t1, if_pos rfl, c1]
  -- g
  have wne : wl (m - 2) ≠ w_f := (wl_ne (m - 2) (by omega)).2.2.1
  have i2 : iForm (cxE t (.ok E1)) (n + 6) = some (n + 12, some (.ok D2)) := by
    have e : nmF (cxE t (.ok E1)) (n + 6 + 4) = .ok D2 := nmF_ok (n := nI (m - 2)) (by
      rw [(G (.ok E1) 4 (Nat.le_of_ble_eq_true rfl)).2]
      show gmE E1 (wl (m - 2)) = _
      rw [g1, if_neg (fun z => wne z.symm)]; exact hD2)
    rw [← e]
    exact z_al (gk _ 0 (Nat.le_of_ble_eq_true rfl)) (gk _ 1 (Nat.le_of_ble_eq_true rfl)) (gk _ 2 (Nat.le_of_ble_eq_true rfl)) (gk _ 3 (Nat.le_of_ble_eq_true rfl)) (gk _ 4 (Nat.le_of_ble_eq_true rfl)) (gk _ 5 (Nat.le_of_ble_eq_true rfl)) (by omega)
  obtain ⟨E2, e2, o2, g2, t2, d2⟩ := pg_new (f := f + 7) i2 (by rw [show t.1 (n + 12) = 1 from (Z 0 (by decide)).1]; decide) (s := 1) (w := w_g) (by rw [show t.1 (n + 6) = 1 from gk (.ok E1) 0 (Nat.le_of_ble_eq_true rfl)]; decide) (G (.ok E1) 1 (Nat.le_of_ble_eq_true rfl)).2 o1 (by decide) (by rw [s1]; show m + 1 < 12; omega) (by rw [g1, if_neg (by decide)]; exact nw w_g (by simp))
  have s2 : E2.ct 1 = m + 2 := by rw [t2, if_pos rfl, s1]
  have f2 : gmE E2 w_f = some (1, nI m, A) := by rw [g2, if_neg (by decide), g1, if_pos rfl, c1]; rfl
  have gg2 : gmE E2 w_g = some (1, nI (m + 1), D2) := by rw [g2, if_pos rfl, s1]; rfl
  -- h
  have i3 := z_fr (c := cxE t (.ok E2)) (k := n + 12) (s := 9) (D := A) (Or.inl rfl) (Z 0 (by decide)).1 (Z 1 (by decide)).1 (Z 2 (by decide)).1 (Z 3 (by decide)).1 (Z 4 (by decide)).1 (Z 5 (by decide)).1 (Z 6 (by decide)).1 (by omega) (nmF_ok (n := nI m) (by rw [show (cxE t (.ok E2)).2.2.1 (n + 12 + 5) = w_f from (Z 5 (by decide)).2]; exact f2))
  obtain ⟨E3, e3, o3, g3, t3, d3⟩ := pg_new (f := f + 6) i3 (by rw [show t.1 (n + 12 + 7) = 1 from (Z 7 (by decide)).1]; decide) (s := 1) (w := w_h) (by rw [show t.1 (n + 12) = 1 from (Z 0 (by decide)).1]; decide) (Z 1 (by decide)).2 o2 (by decide) (by rw [s2]; show m + 2 < 12; omega) (by rw [g2, if_neg (by decide), g1, if_neg (by decide)]; exact nw w_h (by simp))
  have s3 : E3.ct 1 = m + 3 := by rw [t3, if_pos rfl, s2]
  have f3 : gmE E3 w_f = some (1, nI m, A) := by rw [g3, if_neg (by decide)]; exact f2
  have gg3 : gmE E3 w_g = some (1, nI (m + 1), D2) := by rw [g3, if_neg (by decide)]; exact gg2
  -- p
  have i4 := z_fr (c := cxE t (.ok E3)) (k := n + 12 + 7) (s := 10) (D := A) (Or.inr rfl) (Z 7 (by decide)).1 (Z 8 (by decide)).1 (Z 9 (by decide)).1 (Z 10 (by decide)).1 (Z 11 (by decide)).1 (Z 12 (by decide)).1 (Z 13 (by decide)).1 (by omega) (nmF_ok (n := nI m) (by rw [show (cxE t (.ok E3)).2.2.1 (n + 12 + 7 + 5) = w_f from (Z 12 (by decide)).2]; exact f3))
  obtain ⟨E4, e4, o4, g4, t4, d4⟩ := pg_new (f := f + 5) i4 (by rw [show t.1 (n + 12 + 7 + 7) = 1 from (Z 14 (by decide)).1]; decide) (s := 1) (w := w_p) (by rw [show t.1 (n + 12 + 7) = 1 from (Z 7 (by decide)).1]; decide) (Z 8 (by decide)).2 o3 (by decide) (by rw [s3]; show m + 3 < 12; omega) (by rw [g3, if_neg (by decide), g2, if_neg (by decide), g1, if_neg (by decide)]; exact nw w_p (by simp))
  have s4 : E4.ct 1 = m + 4 := by rw [t4, if_pos rfl, s3]
  have f4 : gmE E4 w_f = some (1, nI m, A) := by rw [g4, if_neg (by decide)]; exact f3
  have gg4 : gmE E4 w_g = some (1, nI (m + 1), D2) := by rw [g4, if_neg (by decide)]; exact gg3
  have p4 : gmE E4 w_p = some (1, nI (m + 3), dFront 10 ((cxE t (.ok E3)).2.1 (n + 12 + 7 + 3)) 0 (-1) A) := by rw [g4, if_pos rfl, s3]; rfl
  -- q
  have i5 := z_si (c := cxE t (.ok E4)) (k := n + 12 + 14) (D := A) (D2 := D2) (Z 14 (by decide)).1 (Z 15 (by decide)).1 (Z 16 (by decide)).1 (Z 17 (by decide)).1 (Z 18 (by decide)).1 (Z 19 (by decide)).1 (Z 20 (by decide)).1 (Z 21 (by decide)).1 (Z 22 (by decide)).1 (by omega) (nmF_ok (n := nI m) (by rw [show (cxE t (.ok E4)).2.2.1 (n + 12 + 14 + 4) = w_f from (Z 18 (by decide)).2]; exact f4)) (nmF_ok (n := nI (m + 1)) (by rw [show (cxE t (.ok E4)).2.2.1 (n + 12 + 14 + 7) = w_g from (Z 21 (by decide)).2]; exact gg4))
  obtain ⟨E5, e5, o5, g5, t5, d5⟩ := pg_new (f := f + 4) i5 (by rw [show t.1 (n + 12 + 14 + 9) = 1 from (Z 23 (by decide)).1]; decide) (s := 1) (w := w_q) (by rw [show t.1 (n + 12 + 14) = 1 from (Z 14 (by decide)).1]; decide) (Z 15 (by decide)).2 o4 (by decide) (by rw [s4]; show m + 4 < 12; omega) (by rw [g4, if_neg (by decide), g3, if_neg (by decide), g2, if_neg (by decide), g1, if_neg (by decide)]; exact nw w_q (by simp))
  have s5 : E5.ct 1 = m + 5 := by rw [t5, if_pos rfl, s4]
  have f5 : gmE E5 w_f = some (1, nI m, A) := by rw [g5, if_neg (by decide)]; exact f4
  -- u
  have i6 := z_u (c := cxE t (.ok E5)) (k := n + 12 + 23) (D := A) (Z 23 (by decide)).1 (Z 24 (by decide)).1 (Z 25 (by decide)).1 (Z 26 (by decide)).1 (Z 27 (by decide)).1 (Z 28 (by decide)).1 (Z 29 (by decide)).1 (Z 30 (by decide)).1 (Z 31 (by decide)).1 (Z 32 (by decide)).1 (Z 33 (by decide)).1 (Z 34 (by decide)).1 (Z 28 (by decide)).2 (Z 30 (by decide)).2 (by omega) (nmF_ok (n := nI m) (by rw [show (cxE t (.ok E5)).2.2.1 (n + 12 + 23 + 10) = w_f from (Z 33 (by decide)).2]; exact f5))
  obtain ⟨E6, e6, o6, g6, t6, d6⟩ := pg_new (f := f + 3) i6 (by rw [show t.1 (n + 12 + 23 + 12) = 1 from (Z 35 (by decide)).1]; decide) (s := 1) (w := w_u) (by rw [show t.1 (n + 12 + 23) = 1 from (Z 23 (by decide)).1]; decide) (Z 24 (by decide)).2 o5 (by decide) (by rw [s5]; show m + 5 < 12; omega) (by rw [g5, if_neg (by decide), g4, if_neg (by decide), g3, if_neg (by decide), g2, if_neg (by decide), g1, if_neg (by decide)]; exact nw w_u (by simp))
  have s6 : E6.ct 1 = m + 6 := by rw [t6, if_pos rfl, s5]
  have f6 : gmE E6 w_f = some (1, nI m, A) := by rw [g6, if_neg (by decide)]; exact f5
  -- v
  have i7 := z_v (c := cxE t (.ok E6)) (k := n + 12 + 35) (D := A) (Z 35 (by decide)).1 (Z 36 (by decide)).1 (Z 37 (by decide)).1 (Z 38 (by decide)).1 (Z 39 (by decide)).1 (Z 40 (by decide)).1 (Z 41 (by decide)).1 (Z 42 (by decide)).1 (Z 43 (by decide)).1 (Z 44 (by decide)).1 (Z 45 (by decide)).1 (Z 46 (by decide)).1 (Z 47 (by decide)).1 (Z 40 (by decide)).2 (Z 42 (by decide)).2 (by omega) (nmF_ok (n := nI m) (by rw [show (cxE t (.ok E6)).2.2.1 (n + 12 + 35 + 11) = w_f from (Z 46 (by decide)).2]; exact f6))
  obtain ⟨E7, e7, o7, g7, t7, d7⟩ := pg_new (f := f + 2) i7 (by rw [show t.1 (n + 12 + 35 + 13) = 3 from (Z 48 (by decide)).1]; decide) (s := 1) (w := w_v) (by rw [show t.1 (n + 12 + 35) = 1 from (Z 35 (by decide)).1]; decide) (Z 36 (by decide)).2 o6 (by decide) (by rw [s6]; show m + 6 < 12; omega) (by rw [g6, if_neg (by decide), g5, if_neg (by decide), g4, if_neg (by decide), g3, if_neg (by decide), g2, if_neg (by decide), g1, if_neg (by decide)]; exact nw w_v (by simp))
  have s7 : E7.ct 1 = m + 7 := by rw [t7, if_pos rfl, s6]
  have f7 : gmE E7 w_f = some (1, nI m, A) := by rw [g7, if_neg (by decide)]; exact f6
  have gg7 : gmE E7 w_g = some (1, nI (m + 1), D2) := by rw [g7, if_neg (by decide), g6, if_neg (by decide), g5, if_neg (by decide)]; exact gg4
  have p7 : gmE E7 w_p = some (1, nI (m + 3), dFront 10 ((cxE t (.ok E3)).2.1 (n + 12 + 7 + 3)) 0 (-1) A) := by rw [g7, if_neg (by decide), g6, if_neg (by decide), g5, if_neg (by decide)]; exact p4
  have u3 : E7.ct 3 = 0 := by rw [t7, if_neg (by decide), t6, if_neg (by decide), t5, if_neg (by decide), t4, if_neg (by decide), t3, if_neg (by decide), t2, if_neg (by decide), t1, if_neg (by decide)]; exact c3
  have u0 : E7.ct 0 = 2 := by rw [t7, if_neg (by decide), t6, if_neg (by decide), t5, if_neg (by decide), t4, if_neg (by decide), t3, if_neg (by decide), t2, if_neg (by decide), t1, if_neg (by decide)]; exact c0
  -- w
  have i8 : iForm (cxE t (.ok E7)) (n + 12 + 48) = some (n + 12 + 48 + 6, some (.ok (dFront 10 ((cxE t (.ok E3)).2.1 (n + 12 + 7 + 3)) 0 (-1) A))) := by
    have e : nmF (cxE t (.ok E7)) (n + 12 + 48 + 4) = .ok (dFront 10 ((cxE t (.ok E3)).2.1 (n + 12 + 7 + 3)) 0 (-1) A) := nmF_ok (n := nI (m + 3)) (by rw [show (cxE t (.ok E7)).2.2.1 (n + 12 + 48 + 4) = w_p from (Z 52 (by decide)).2]; exact p7)
    rw [← e]
    exact z_w (k := n + 12 + 48) (Z 48 (by decide)).1 (Z 49 (by decide)).1 (Z 50 (by decide)).1 (Z 51 (by decide)).1 (Z 52 (by decide)).1 (Z 53 (by decide)).1 (by omega)
  obtain ⟨E8, e8, o8, g8, t8, d8⟩ := pg_new (f := f + 1) i8 (by rw [show t.1 (n + 12 + 48 + 6) = 3 from (Z 54 (by decide)).1]; decide) (s := 3) (w := w_w) (by rw [show t.1 (n + 12 + 48) = 3 from (Z 48 (by decide)).1]; decide) (Z 49 (by decide)).2 o7 (by decide) (by rw [u3]; decide) (by rw [g7, if_neg (by decide), g6, if_neg (by decide), g5, if_neg (by decide), g4, if_neg (by decide), g3, if_neg (by decide), g2, if_neg (by decide), g1, if_neg (by decide)]; exact nw w_w (by simp))
  have u3' : E8.ct 3 = 1 := by rw [t8, if_pos rfl, u3]
  have f8 : gmE E8 w_f = some (1, nI m, A) := by rw [g8, if_neg (by decide)]; exact f7
  -- z
  have i9 := z_z (c := cxE t (.ok E8)) (k := n + 12 + 54) (m := .ok A) (Z 54 (by decide)).1 (Z 55 (by decide)).1 (Z 56 (by decide)).1 (Z 57 (by decide)).1 (Z 58 (by decide)).1 (Z 59 (by decide)).1 (Z 60 (by decide)).1 (Z 61 (by decide)).1 (Z 62 (by decide)).1 (by omega) (nmF_ok (n := nI m) (by rw [show (cxE t (.ok E8)).2.2.1 (n + 12 + 54 + 7) = w_f from (Z 61 (by decide)).2]; exact f8))
  obtain ⟨E9, e9, o9, g9, t9, d9⟩ := xAdd_ok (t := t) (k := n + 12 + 54) (E := E8) (s := 3) (w := w_z) (D := dFront 5 ((cxE t (.ok E8)).2.1 (n + 12 + 54 + 3)) 0 (-1) (dFront 9 ((cxE t (.ok E8)).2.1 (n + 12 + 54 + 4)) 0 (-1) (dFront 5 ((cxE t (.ok E8)).2.1 (n + 12 + 54 + 5)) 0 (-1) A))) (by rw [show t.1 (n + 12 + 54) = 3 from (Z 54 (by decide)).1]; decide) (Z 55 (by decide)).2 o8 (by decide) (by rw [u3']; decide) (by rw [g8, if_neg (by decide), g7, if_neg (by decide), g6, if_neg (by decide), g5, if_neg (by decide), g4, if_neg (by decide), g3, if_neg (by decide), g2, if_neg (by decide), g1, if_neg (by decide)]; exact nw w_z (by simp))
  have v3 : E9.ct 3 = 2 := by rw [t9, if_pos rfl, u3']
  refine ⟨n + 12 + 54 + 9, E9, ?_, ?_, ?_, v3, A, D2, nI m, nI (m + 1), ?_, ?_, ?_, ?_, ?_, ?_, ?_, ?_, ?_, ?_, ?_⟩
  · have e10 : pgm t (f + 1) (.ok E8) (n + 12 + 54) = some (n + 12 + 54 + 9, some (xEnd t (xAdd t (.ok E8) (n + 12 + 54) _) (n + 12 + 54 + 9))) := pg_last i9 z63
    have e11 : xEnd t (.ok E9) (n + 12 + 54 + 9) = .ok E9 := by
      exact if_neg (show ¬ E9.ct 3 = 0 by rw [v3]; decide)
    have e9' : xAdd t (.ok E8) (n + 12 + 54) (mvB (dFront 5 ((cxE t (.ok E8)).2.1 (n + 12 + 54 + 3))) (.ok (0, -1)) (mvB (dFront 9 ((cxE t (.ok E8)).2.1 (n + 12 + 54 + 4))) (.ok (0, -1)) (mvB (dFront 5 ((cxE t (.ok E8)).2.1 (n + 12 + 54 + 5))) (.ok (0, -1)) (.ok A)))) = .ok E9 := e9
    rw [e9', e11] at e10
    rw [show f + 9 = f + 8 + 1 from rfl, e1, show f + 8 = f + 7 + 1 from rfl, e2, show f + 7 = f + 6 + 1 from rfl, e3, show f + 6 = f + 5 + 1 from rfl, e4, show f + 5 = f + 4 + 1 from rfl]
    rw [show n + 12 + 7 + 7 = n + 12 + 14 from rfl, e5, show f + 4 = f + 3 + 1 from rfl, show n + 12 + 14 + 9 = n + 12 + 23 from rfl, e6, show f + 3 = f + 2 + 1 from rfl, show n + 12 + 23 + 12 = n + 12 + 35 from rfl, e7, show f + 2 = f + 1 + 1 from rfl, show n + 12 + 35 + 13 = n + 12 + 48 from rfl, e8, show n + 12 + 48 + 6 = n + 12 + 54 from rfl, e10]
  · rw [t9, if_neg (by decide), t8, if_neg (by decide)]; exact u0
  · rw [t9, if_neg (by decide), t8, if_neg (by decide)]; exact s7
  · rw [g9, if_neg (by decide)]; exact f8
  · rw [g9, if_neg (by decide), g8, if_neg (by decide)]; exact gg7
  all_goals simp only [d9, d8, d7, d6, d5, d4, d3, d2, d1, u3, u3', s1, s2, s3, s4, s5, s6, s7, c1]
  · rw [if_neg (by omega), if_neg (by omega), if_neg (by omega), if_neg (by omega), if_neg (by omega), if_neg (by omega), if_neg (by omega), if_neg (by omega), if_pos ⟨trivial, trivial⟩]
  · rw [if_neg (by omega), if_neg (by omega), if_neg (by omega), if_neg (by omega), if_neg (by omega), if_neg (by omega), if_neg (by omega), if_pos ⟨trivial, trivial⟩]
  · rw [if_neg (by omega), if_neg (by omega), if_neg (by omega), if_neg (by omega), if_neg (by omega), if_neg (by omega), if_pos ⟨trivial, trivial⟩]; rfl
  · rw [if_neg (by omega), if_neg (by omega), if_neg (by omega), if_neg (by omega), if_neg (by omega), if_pos ⟨trivial, trivial⟩]; rfl
  · rw [if_neg (by omega), if_neg (by omega), if_neg (by omega), if_neg (by omega), if_pos ⟨trivial, trivial⟩]; rfl
  · rw [if_neg (by omega), if_neg (by omega), if_neg (by omega), if_pos ⟨trivial, trivial⟩]; rfl
  · rw [if_neg (by omega), if_neg (by omega), if_pos ⟨trivial, trivial⟩]; rfl
  · rw [if_neg (by omega), if_pos ⟨trivial, trivial⟩]; rfl
  · rw [if_pos ⟨trivial, trivial⟩]; rfl
end PQ
