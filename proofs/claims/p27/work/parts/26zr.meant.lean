-- the law's program with one let too many; what its names are at a step
section PS
variable {E : EnvN} {w w' : Int64} {s m j a b n f k k' : Nat} {D : Den} {v : Int64} {l : Int32} {c : Cx} {t : Tk} {B R : List Int32} {X : Except En EnvN} {mv : MV}
theorem pg_fin6 (hT : TkB t B) (hm : 2 ≤ m) (hm6 : m = 6) (h : InvE m E) (hO : Off B n (finT m)) (hn : n < 200) : ∃ k' e, pgm t (f + 9) (.ok E) n = some (k', some (.error e)) ∧ e.1 = 4 := by
  obtain ⟨F, G, Z, z63⟩ := fin_tk hT hm (by omega) hO
  obtain ⟨o0, ⟨c0, c1, c2, c3⟩, ⟨hl, -, -⟩, hl2, hno⟩ := h
  obtain ⟨A, hA⟩ := hl (m - 1) (by omega)
  obtain ⟨D2, hD2⟩ := hl (m - 2) (by omega)
  have nw : ∀ w, (w = w_f ∨ w = w_g ∨ w = w_h ∨ w = w_p ∨ w = w_q ∨ w = w_u ∨ w = w_v ∨ w = w_w ∨ w = w_z) → gmE E w = none := fun w hw => by
    refine hno w ?_ ?_ (fun a ha => ?_)
    · rcases hw with e | e | e | e | e | e | e | e | e <;> rw [e] <;> decide
    · rcases hw with e | e | e | e | e | e | e | e | e <;> rw [e] <;> decide
    · obtain ⟨_, _, q1, q2, q3, q4, q5, q6, q7, q8, q9⟩ := wl_ne a ha
      rcases hw with e | e | e | e | e | e | e | e | e <;> rw [e]
      · exact fun z => q1 z.symm
      · exact fun z => q2 z.symm
      · exact fun z => q3 z.symm
      · exact fun z => q4 z.symm
      · exact fun z => q5 z.symm
      · exact fun z => q6 z.symm
      · exact fun z => q7 z.symm
      · exact fun z => q8 z.symm
      · exact fun z => q9 z.symm
  -- f
  have fk := fun X j hj => (F X j hj).1
  have gk := fun X j hj => (G X j hj).1
  have i1 : iForm (cxE t (.ok E)) n = some (n + 6, some (.ok A)) := by
    have e : nmF (cxE t (.ok E)) (n + 4) = .ok A := nmF_ok (n := nI (m - 1)) (by rw [(F (.ok E) 4 (Nat.le_of_ble_eq_true rfl)).2]; exact hA)
    rw [← e]
    exact z_al (fk _ 0 (Nat.le_of_ble_eq_true rfl)) (fk _ 1 (Nat.le_of_ble_eq_true rfl)) (fk _ 2 (Nat.le_of_ble_eq_true rfl)) (fk _ 3 (Nat.le_of_ble_eq_true rfl)) (fk _ 4 (Nat.le_of_ble_eq_true rfl)) (fk _ 5 (Nat.le_of_ble_eq_true rfl)) (by omega)
  obtain ⟨E1, e1, o1, g1, t1, d1⟩ := pg_new (f := f + 8) i1 (by rw [show t.1 (n + 6) = 1 from (G (.ok E) 0 (Nat.le_of_ble_eq_true rfl)).1]; decide) (s := 1) (w := w_f) (by rw [show t.1 n = 1 from fk (.ok E) 0 (Nat.le_of_ble_eq_true rfl)]; decide) (F (.ok E) 1 (Nat.le_of_ble_eq_true rfl)).2 o0 (by decide) (by rw [c1]; show m < 12; omega) (nw w_f (by simp))
  have s1 : E1.ct 1 = m + 1 := by rw [t1, if_pos rfl, c1]
  -- g
  have wne : wl (m - 2) ≠ w_f := (wl_ne (m - 2) (by omega)).2.2.1
  have i2 : iForm (cxE t (.ok E1)) (n + 6) = some (n + 12, some (.ok D2)) := by
    have e : nmF (cxE t (.ok E1)) (n + 6 + 4) = .ok D2 := nmF_ok (n := nI (m - 2)) (by
      rw [(G (.ok E1) 4 (Nat.le_of_ble_eq_true rfl)).2]
      show gmE E1 (wl (m - 2)) = _
      rw [g1, if_neg (fun z => wne z.symm)]; exact hD2)
    rw [← e]
    exact z_al (gk _ 0 (Nat.le_of_ble_eq_true rfl)) (gk _ 1 (Nat.le_of_ble_eq_true rfl)) (gk _ 2 (Nat.le_of_ble_eq_true rfl)) (gk _ 3 (Nat.le_of_ble_eq_true rfl)) (gk _ 4 (Nat.le_of_ble_eq_true rfl)) (gk _ 5 (Nat.le_of_ble_eq_true rfl)) (by omega)
  obtain ⟨E2, e2, o2, g2, t2, d2⟩ := pg_new (f := f + 7) i2 (by rw [show t.1 (n + 12) = 1 from (Z 0 (by decide)).1]; decide) (s := 1) (w := w_g) (by rw [show t.1 (n + 6) = 1 from gk (.ok E1) 0 (Nat.le_of_ble_eq_true rfl)]; decide) (G (.ok E1) 1 (Nat.le_of_ble_eq_true rfl)).2 o1 (by decide) (by rw [s1]; show m + 1 < 12; omega) (by rw [g1, if_neg (by decide)]; exact nw w_g (by simp))
  have s2 : E2.ct 1 = m + 2 := by rw [t2, if_pos rfl, s1]
  have f2 : gmE E2 w_f = some (1, nI m, A) := by rw [g2, if_neg (by decide), g1, if_pos rfl, c1]; rfl
  have gg2 : gmE E2 w_g = some (1, nI (m + 1), D2) := by rw [g2, if_pos rfl, s1]; rfl
  -- h
  have i3 := z_fr (c := cxE t (.ok E2)) (k := n + 12) (s := 9) (D := A) (Or.inl rfl) (Z 0 (by decide)).1 (Z 1 (by decide)).1 (Z 2 (by decide)).1 (Z 3 (by decide)).1 (Z 4 (by decide)).1 (Z 5 (by decide)).1 (Z 6 (by decide)).1 (by omega) (nmF_ok (n := nI m) (by rw [show (cxE t (.ok E2)).2.2.1 (n + 12 + 5) = w_f from (Z 5 (by decide)).2]; exact f2))
  obtain ⟨E3, e3, o3, g3, t3, d3⟩ := pg_new (f := f + 6) i3 (by rw [show t.1 (n + 12 + 7) = 1 from (Z 7 (by decide)).1]; decide) (s := 1) (w := w_h) (by rw [show t.1 (n + 12) = 1 from (Z 0 (by decide)).1]; decide) (Z 1 (by decide)).2 o2 (by decide) (by rw [s2]; show m + 2 < 12; omega) (by rw [g2, if_neg (by decide), g1, if_neg (by decide)]; exact nw w_h (by simp))
  have s3 : E3.ct 1 = m + 3 := by rw [t3, if_pos rfl, s2]
  have f3 : gmE E3 w_f = some (1, nI m, A) := by rw [g3, if_neg (by decide)]; exact f2
  have gg3 : gmE E3 w_g = some (1, nI (m + 1), D2) := by rw [g3, if_neg (by decide)]; exact gg2
  -- p
  have i4 := z_fr (c := cxE t (.ok E3)) (k := n + 12 + 7) (s := 10) (D := A) (Or.inr rfl) (Z 7 (by decide)).1 (Z 8 (by decide)).1 (Z 9 (by decide)).1 (Z 10 (by decide)).1 (Z 11 (by decide)).1 (Z 12 (by decide)).1 (Z 13 (by decide)).1 (by omega) (nmF_ok (n := nI m) (by rw [show (cxE t (.ok E3)).2.2.1 (n + 12 + 7 + 5) = w_f from (Z 12 (by decide)).2]; exact f3))
  obtain ⟨E4, e4, o4, g4, t4, d4⟩ := pg_new (f := f + 5) i4 (by rw [show t.1 (n + 12 + 7 + 7) = 1 from (Z 14 (by decide)).1]; decide) (s := 1) (w := w_p) (by rw [show t.1 (n + 12 + 7) = 1 from (Z 7 (by decide)).1]; decide) (Z 8 (by decide)).2 o3 (by decide) (by rw [s3]; show m + 3 < 12; omega) (by rw [g3, if_neg (by decide), g2, if_neg (by decide), g1, if_neg (by decide)]; exact nw w_p (by simp))
  have s4 : E4.ct 1 = m + 4 := by rw [t4, if_pos rfl, s3]
  have f4 : gmE E4 w_f = some (1, nI m, A) := by rw [g4, if_neg (by decide)]; exact f3
  have gg4 : gmE E4 w_g = some (1, nI (m + 1), D2) := by rw [g4, if_neg (by decide)]; exact gg3
  have p4 : gmE E4 w_p = some (1, nI (m + 3), dFront 10 ((cxE t (.ok E3)).2.1 (n + 12 + 7 + 3)) 0 (-1) A) := by rw [g4, if_pos rfl, s3]; rfl
  -- q
  have i5 := z_si (c := cxE t (.ok E4)) (k := n + 12 + 14) (D := A) (D2 := D2) (Z 14 (by decide)).1 (Z 15 (by decide)).1 (Z 16 (by decide)).1 (Z 17 (by decide)).1 (Z 18 (by decide)).1 (Z 19 (by decide)).1 (Z 20 (by decide)).1 (Z 21 (by decide)).1 (Z 22 (by decide)).1 (by omega) (nmF_ok (n := nI m) (by rw [show (cxE t (.ok E4)).2.2.1 (n + 12 + 14 + 4) = w_f from (Z 18 (by decide)).2]; exact f4)) (nmF_ok (n := nI (m + 1)) (by rw [show (cxE t (.ok E4)).2.2.1 (n + 12 + 14 + 7) = w_g from (Z 21 (by decide)).2]; exact gg4))
  obtain ⟨E5, e5, o5, g5, t5, d5⟩ := pg_new (f := f + 4) i5 (by rw [show t.1 (n + 12 + 14 + 9) = 1 from (Z 23 (by decide)).1]; decide) (s := 1) (w := w_q) (by rw [show t.1 (n + 12 + 14) = 1 from (Z 14 (by decide)).1]; decide) (Z 15 (by decide)).2 o4 (by decide) (by rw [s4]; show m + 4 < 12; omega) (by rw [g4, if_neg (by decide), g3, if_neg (by decide), g2, if_neg (by decide), g1, if_neg (by decide)]; exact nw w_q (by simp))
  have s5 : E5.ct 1 = m + 5 := by rw [t5, if_pos rfl, s4]
  have f5 : gmE E5 w_f = some (1, nI m, A) := by rw [g5, if_neg (by decide)]; exact f4
  -- u
  have i6 := z_u (c := cxE t (.ok E5)) (k := n + 12 + 23) (D := A) (Z 23 (by decide)).1 (Z 24 (by decide)).1 (Z 25 (by decide)).1 (Z 26 (by decide)).1 (Z 27 (by decide)).1 (Z 28 (by decide)).1 (Z 29 (by decide)).1 (Z 30 (by decide)).1 (Z 31 (by decide)).1 (Z 32 (by decide)).1 (Z 33 (by decide)).1 (Z 34 (by decide)).1 (Z 28 (by decide)).2 (Z 30 (by decide)).2 (by omega) (nmF_ok (n := nI m) (by rw [show (cxE t (.ok E5)).2.2.1 (n + 12 + 23 + 10) = w_f from (Z 33 (by decide)).2]; exact f5))
  obtain ⟨E6, e6, o6, g6, t6, d6⟩ := pg_new (f := f + 3) i6 (by rw [show t.1 (n + 12 + 23 + 12) = 1 from (Z 35 (by decide)).1]; decide) (s := 1) (w := w_u) (by rw [show t.1 (n + 12 + 23) = 1 from (Z 23 (by decide)).1]; decide) (Z 24 (by decide)).2 o5 (by decide) (by rw [s5]; show m + 5 < 12; omega) (by rw [g5, if_neg (by decide), g4, if_neg (by decide), g3, if_neg (by decide), g2, if_neg (by decide), g1, if_neg (by decide)]; exact nw w_u (by simp))
  have s6 : E6.ct 1 = m + 6 := by rw [t6, if_pos rfl, s5]
  have f6 : gmE E6 w_f = some (1, nI m, A) := by rw [g6, if_neg (by decide)]; exact f5
  -- v: one too many
  have i7 := z_v (c := cxE t (.ok E6)) (k := n + 12 + 35) (D := A) (Z 35 (by decide)).1 (Z 36 (by decide)).1 (Z 37 (by decide)).1 (Z 38 (by decide)).1 (Z 39 (by decide)).1 (Z 40 (by decide)).1 (Z 41 (by decide)).1 (Z 42 (by decide)).1 (Z 43 (by decide)).1 (Z 44 (by decide)).1 (Z 45 (by decide)).1 (Z 46 (by decide)).1 (Z 47 (by decide)).1 (Z 40 (by decide)).2 (Z 42 (by decide)).2 (by omega) (nmF_ok (n := nI m) (by rw [show (cxE t (.ok E6)).2.2.1 (n + 12 + 35 + 11) = w_f from (Z 46 (by decide)).2]; exact f6))
  have x7 : ∀ mv, xAdd t (.ok E6) (n + 12 + 35) mv = .error (4, t.2.1 (n + 12 + 35)) := fun mv => by
    show iAdd E6 (cxE t (.ok E6)) (n + 12 + 35) mv = _
    unfold iAdd iPre
    rw [show soK ((cxE t (.ok E6)).1 (n + 12 + 35)) = 1 by rw [show (cxE t (.ok E6)).1 (n + 12 + 35) = 1 from (Z 35 (by decide)).1]; decide, if_pos (by rw [s6]; show 12 ≤ m + 6; omega)]
    rfl
  have e7 : pgm t (f + 2 + 1) (.ok E6) (n + 12 + 35) = pgm t (f + 2) (xAdd t (.ok E6) (n + 12 + 35) _) (n + 12 + 35 + 13) := pg_step i7 (by rw [show t.1 (n + 12 + 35 + 13) = 3 from (Z 48 (by decide)).1]; decide)
  rw [x7] at e7
  have i8 : iForm (cxE t (.error (4, t.2.1 (n + 12 + 35)))) (n + 12 + 48) = some (n + 12 + 48 + 6, some _) := z_w (k := n + 12 + 48) (Z 48 (by decide)).1 (Z 49 (by decide)).1 (Z 50 (by decide)).1 (Z 51 (by decide)).1 (Z 52 (by decide)).1 (Z 53 (by decide)).1 (by omega)
  have e8 := pg_step (t := t) (f := f + 1) i8 (by rw [show t.1 (n + 12 + 48 + 6) = 3 from (Z 54 (by decide)).1]; decide)
  have i9 := z_z (c := cxE t (.error (4, t.2.1 (n + 12 + 35)))) (k := n + 12 + 54) (Z 54 (by decide)).1 (Z 55 (by decide)).1 (Z 56 (by decide)).1 (Z 57 (by decide)).1 (Z 58 (by decide)).1 (Z 59 (by decide)).1 (Z 60 (by decide)).1 (Z 61 (by decide)).1 (Z 62 (by decide)).1 (by omega) rfl
  have e9 := pg_last (t := t) (f := f) i9 z63
  refine ⟨n + 12 + 54 + 9, (4, t.2.1 (n + 12 + 35)), ?_, rfl⟩
  rw [show f + 9 = f + 8 + 1 from rfl, e1, show f + 8 = f + 7 + 1 from rfl, e2, show f + 7 = f + 6 + 1 from rfl, e3, show f + 6 = f + 5 + 1 from rfl, e4, show f + 5 = f + 4 + 1 from rfl]
  rw [show n + 12 + 7 + 7 = n + 12 + 14 from rfl, e5, show f + 4 = f + 3 + 1 from rfl, show n + 12 + 14 + 9 = n + 12 + 23 from rfl, e6, show f + 3 = f + 2 + 1 from rfl, show n + 12 + 23 + 12 = n + 12 + 35 from rfl, e7, show n + 12 + 35 + 13 = n + 12 + 48 from rfl, show f + 2 = f + 1 + 1 from rfl, e8]
  exact e9
end PS
section SM
variable {E : EnvN} {m : Nat} {g : Hs} {A B N : Nat → Int64} {tm : Nat → Int32} {lo hi : Int32} {i j : Nat} {V U : Vl}
theorem nz_b {b : Bool} : nzV (b2l b) = b := by cases b <;> decide
theorem wi_inf : wiV 0 (-1) tm j i = true := by unfold wiV; rw [decide_eq_true rfl]; rfl
theorem on_s {n : Nat} : onV 0 (-1) tm A i (n + 1) = (onV 0 (-1) tm A i n || nzV (A n)) := by rw [onV, wi_inf, Bool.and_true]
theorem on_i : ∀ n, onV 0 (-1) tm A i n = onV 0 (-1) tm A j n
  | 0 => rfl
  | n+1 => by rw [on_s, on_s, on_i n]
theorem si_s {n : Nat} : siV 0 (-1) tm A B i (n + 1) = (nzV (B n) || (nzV (A n) && siV 0 (-1) tm A B i n)) := by rw [siV, wi_inf, Bool.and_true]
theorem si_i : ∀ n, siV 0 (-1) tm A B i n = siV 0 (-1) tm A B j n
  | 0 => rfl
  | n+1 => by rw [si_s, si_s, si_i n]
theorem mi_on : ∀ n, (∀ j, j < n → nzV (N j) = !nzV (A j)) → (miV lo hi tm A i n).isNone = !(onV lo hi tm N i n)
  | 0, _ => rfl
  | n+1, h => by
    have ih := mi_on n (fun j hj => h j (by omega))
    rw [miV, onV, h n (by omega)]
    cases e : miV lo hi tm A i n with
    | some q =>
      rw [e] at ih
      have ih : onV lo hi tm N i n = true := by
        have : false = !(onV lo hi tm N i n) := ih
        cases z : onV lo hi tm N i n with
        | true => rfl
        | false => rw [z] at this; cases this
      rw [ih]; rfl
    | none =>
      rw [e] at ih
      have ih : onV lo hi tm N i n = false := by
        have : true = !(onV lo hi tm N i n) := ih
        cases z : onV lo hi tm N i n with
        | false => rfl
        | true => rw [z] at this; cases this
      rw [ih]
      show (if (!nzV (A n) && wiV lo hi tm n i) = true then some n else none).isNone = _
      cases (!nzV (A n) && wiV lo hi tm n i) <;> rfl
theorem op_0 : nzV (oV 0 0 lo hi 0 V zV zV g i) = !nzV (V g i) := by
  show nzV (opV 0 0 lo hi 0 g (V g) (zV g) (zV g) i) = _
  unfold opV
  rw [if_pos rfl, nz_b]
theorem op_4 : nzV (oV 4 0 lo hi 0 V zV zV g i) = onV lo hi g.1 (V g) i (i + 1) := by
  show nzV (opV 4 0 lo hi 0 g (V g) (zV g) (zV g) i) = _
  unfold opV
  rw [if_neg (by decide), if_neg (by decide), if_neg (by decide), if_neg (by decide), if_pos rfl, nz_b]
theorem op_5 : nzV (oV 5 0 lo hi 0 V zV zV g i) = (miV lo hi g.1 (V g) i (i + 1)).isNone := by
  show nzV (opV 5 0 lo hi 0 g (V g) (zV g) (zV g) i) = _
  unfold opV
  rw [if_neg (by decide), if_neg (by decide), if_neg (by decide), if_neg (by decide), if_neg (by decide), if_pos rfl, nz_b]
theorem op_10 : nzV (oV 10 0 lo hi 0 V U zV g i) = siV lo hi g.1 (V g) (U g) i (i + 1) := by
  show nzV (opV 10 0 lo hi 0 g (V g) (U g) (zV g) i) = _
  unfold opV
  rw [if_neg (by decide), if_neg (by decide), if_neg (by decide), if_neg (by decide), if_neg (by decide), if_neg (by decide), if_neg (by decide), if_neg (by decide), if_neg (by decide), if_neg (by decide), if_pos rfl, nz_b]
theorem op_11 : nzV (oV 11 0 lo hi 0 V U zV g i) = (nzV (V g i) && nzV (U g i)) := by
  show nzV (opV 11 0 lo hi 0 g (V g) (U g) (zV g) i) = _
  unfold opV
  rw [if_neg (by decide), if_neg (by decide), if_neg (by decide), if_neg (by decide), if_neg (by decide), if_neg (by decide), if_neg (by decide), if_neg (by decide), if_neg (by decide), if_neg (by decide), if_neg (by decide), if_pos rfl, nz_b]
/-- always, as a step and the step ahead have it -/
theorem al_i : nzV (vA1 V g i) = !(onV 0 (-1) g.1 (vN1 V g) i (i + 1)) := op_5.trans (mi_on (i + 1) (fun j _ => op_0))
theorem sem_h (h : SemE m E) : hoL E g (m + 2) i = (hoL E g m i || (decide (0 < i) && hoL E g (m + 2) (i - 1))) := by
  obtain ⟨-, -, -, A, G, i1, i2, -, -, e0, e1, e2, -⟩ := h
  unfold hoL
  rw [e0, e2]
  show nzV (oV 4 0 0 (-1) 0 A.1 zV zV g i) = (_ || (_ && nzV (oV 4 0 0 (-1) 0 A.1 zV zV g (i - 1))))
  rw [op_4, op_4, on_s]
  cases i with
  | zero => show (false || _) = (_ || (false && _)); rw [Bool.false_or, Bool.false_and, Bool.or_false]
  | succ i =>
    rw [decide_eq_true (Nat.succ_pos i), Bool.true_and, Nat.add_sub_cancel, on_i (i := i + 1) (j := i) (i + 1), Bool.or_comm]
theorem sem_p (h : SemE m E) : hoL E g (m + 3) i = (hoL E g m i && (decide (i = 0) || hoL E g (m + 3) (i - 1))) := by
  obtain ⟨-, -, -, A, G, i1, i2, -, -, e0, e1, e2, e3, -⟩ := h
  unfold hoL
  rw [e0, e3, al_i, al_i, on_s]
  have e : nzV (vN1 A.1 g i) = !nzV (A.1 g i) := op_0
  rw [e]
  cases i with
  | zero =>
    show (!(false || !_)) = (_ && (true || _))
    rw [Bool.false_or, Bool.not_not, Bool.true_or, Bool.and_true]
  | succ i =>
    rw [decide_eq_false (Nat.succ_ne_zero i), Bool.false_or, Nat.add_sub_cancel, on_i (i := i + 1) (j := i) (i + 1), Bool.not_or, Bool.not_not, Bool.and_comm]
theorem sem_q (h : SemE m E) : hoL E g (m + 4) i = (hoL E g (m + 1) i || (hoL E g m i && (decide (0 < i) && hoL E g (m + 4) (i - 1)))) := by
  obtain ⟨-, -, -, A, G, i1, i2, -, -, e0, e1, e2, e3, e4, -⟩ := h
  unfold hoL
  rw [e0, e1, e4, op_10, op_10, si_s]
  cases i with
  | zero => show (_ || (_ && false)) = (_ || (_ && (false && _))); rw [Bool.false_and]
  | succ i => rw [decide_eq_true (Nat.succ_pos i), Bool.true_and, Nat.add_sub_cancel, si_i (i := i + 1) (j := i) (i + 1)]
theorem sem_uv (h : SemE m E) : hoL E g (m + 5) i = !hoL E g (m + 6) i := by
  obtain ⟨-, -, -, A, G, i1, i2, -, -, e0, e1, e2, e3, e4, e5, e6, -⟩ := h
  unfold hoL
  rw [e5, e6, op_4, op_5, mi_on (N := A.1 g) (i + 1) (fun j _ => by
    have e : nzV (vN1 A.1 g j) = !nzV (A.1 g j) := op_0
    rw [e, Bool.not_not]), Bool.not_not]
theorem sem_w (h : SemE m E) : hoH E g 0 i = hoL E g (m + 3) i := by
  obtain ⟨-, -, -, A, G, i1, i2, -, -, e0, e1, e2, e3, e4, e5, e6, e7, -⟩ := h
  unfold hoL hoH
  rw [e3, e7]
theorem sem_z (h : SemE m E) : hoH E g 1 i = hoL E g (m + 3) i := by
  obtain ⟨-, -, -, A, G, i1, i2, -, -, e0, e1, e2, e3, e4, e5, e6, e7, e8⟩ := h
  unfold hoL hoH
  rw [e3, e8, al_i]
  show nzV (oV 0 0 0 (-1) 0 (vO1 (vN1 A.1)) zV zV g i) = _
  rw [op_0]
  show (!nzV (oV 4 0 0 (-1) 0 (vN1 A.1) zV zV g i)) = _
  rw [op_4]
/-- the law's question -/
theorem q_law {t : Tk} (h : SemE m E) (hT : TkB t tQu) : ∃ k' D, qst (cxE t (.ok E)) = some (k', some (.ok D)) ∧ ∀ g i, nzV (D.1 g i) = (hoL E g (m + 4) i && hoL E g (m + 5) i) := by
  obtain ⟨-, -, -, A, G, i1, i2, nf, ng, e0, e1, e2, e3, e4, e5, -⟩ := h
  have Z : ∀ j, j < 16 → t.1 j = (kQu.getD j (53, 0)).1 ∧ t.2.2 j = (kQu.getD j (53, 0)).2 := fun j hj => ⟨by rw [(hT _).1, tkQu0 j hj], by rw [(hT _).2, tkQu0 j hj]⟩
  have z16 : t.1 16 = 53 := by rw [(hT 16).1, show TK tQu 16 = (53, 0) from TK_end (n := 16) tkQu1 0]
  have nF : ∀ j, t.2.2 j = w_f → nmF (cxE t (.ok E)) j = .ok A := fun j hj => nmF_ok (n := i1) (by
    show gmE E (t.2.2 j) = _
    rw [hj]; exact nf)
  have nG : ∀ j, t.2.2 j = w_g → nmF (cxE t (.ok E)) j = .ok G := fun j hj => nmF_ok (n := i2) (by
    show gmE E (t.2.2 j) = _
    rw [hj]; exact ng)
  have a1 : spX (cxE t (.ok E)) 691 3 1 1 = some (3, some (.ok A)) := by rw [← nF 2 (Z 2 (by decide)).2]; exact g_is (d := 690) (k := 1) (Z 1 (by decide)).1 (Z 2 (by decide)).1 (by decide)
  have a2 : spX (cxE t (.ok E)) 691 3 1 4 = some (6, some (.ok G)) := by rw [← nG 5 (Z 5 (by decide)).2]; exact g_is (d := 690) (k := 4) (Z 4 (by decide)).1 (Z 5 (by decide)).1 (by decide)
  have a3 := g_since0 (k1 := 3) a1 (Z 3 (by decide)).1 (by decide) (by rw [show (cxE t (.ok E)).1 (3 + 1) = 15 from (Z 4 (by decide)).1]; decide) a2
  have a4 := climb2 (d := 692) a3 (Or.inr (Or.inl (Z 6 (by decide)).1))
  have a5 := g_brace (k := 0) (D := 0) (Z 0 (by decide)).1 (by decide) (by decide) a4 (Z 6 (by decide)).1 (by decide)
  have b1 : spX (cxE t (.ok E)) 695 3 1 14 = some (16, some (.ok A)) := by rw [← nF 15 (Z 15 (by decide)).2]; exact g_is (d := 694) (k := 14) (Z 14 (by decide)).1 (Z 15 (by decide)).1 (by decide)
  have b2' := g_bf1 (k := 8) (D := 0) (Or.inl (Z 8 (by decide)).1) (by decide) (Z 9 (by decide)).1 (Z 10 (by decide)).1 (Z 11 (by decide)).1 (Z 12 (by decide)).1 (Z 13 (by decide)).1 (by decide) b1
  rw [bd14 (Z 10 (by decide)).2 (Z 12 (by decide)).2, show (cxE t (.ok E)).1 8 = 9 from (Z 8 (by decide)).1] at b2'
  have c1 := g_and (k1 := 7) (cl_2 a5 (by rw [show (cxE t (.ok E)).1 (6 + 1) = 12 from (Z 7 (by decide)).1]; decide)) (Z 7 (by decide)).1 (by decide) (cl_2 b2' (by rw [show (cxE t (.ok E)).1 16 = 53 from z16]; decide)) (by rw [show (cxE t (.ok E)).1 16 = 53 from z16]; decide)
  have c2 := cl_0 (cl_1 c1 (by rw [show (cxE t (.ok E)).1 16 = 53 from z16]; decide)) (by rw [show (cxE t (.ok E)).1 16 = 53 from z16]; decide)
  refine ⟨16, dAnd (dSince ((cxE t (.ok E)).2.1 1) 0 (-1) A G) (dFront 9 ((cxE t (.ok E)).2.1 8) 1 4 A), ?_, fun g i => ?_⟩
  · rw [qst, g_rb c2, if_pos (show (cxE t (.ok E)).1 16 = 53 from z16)]
    rfl
  · unfold hoL
    rw [e4, e5]
    exact op_11 (lo := 0) (hi := -1)
end SM
