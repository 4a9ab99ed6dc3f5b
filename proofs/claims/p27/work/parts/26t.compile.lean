-- both compile a program
section RC
variable {σ00 σ0 σ σ1 σ2 σ3 : MS} {lo L len k nx : Nat} {kw : Nat → Int64} {bt : Nat → Int32} {c : Cx} {E : EnvN}
theorem pgmErr {t : Tk} {e : En} : ∀ (n k k' : Nat) (X : Except En EnvN), pgm t n (.error e) k = some (k', some X) → X = .error e
  | 0, _, _, _, h => by cases h
  | n+1, k, k', X, h => by
    rw [pgm] at h
    cases hi : iForm (cxE t (.error e)) k with
    | none => rw [hi] at h; cases h
    | some q =>
      obtain ⟨k1, o⟩ := q
      rw [hi] at h
      cases o with
      | none => cases h
      | some m =>
        have h : (if t.1 k1 = 53 then some (k1, some (xEnd t (xAdd t (.error e) k m) k1)) else pgm t n (xAdd t (.error e) k m) k1) = some (k', some X) := h
        by_cases z : t.1 k1 = 53
        · rw [if_pos z] at h
          exact (Option.some.inj (Prod.ext_iff.mp (Option.some.inj h)).2).symm
        · rw [if_neg z] at h
          exact pgmErr n k1 k' X h
/-- what the reference makes of a program -/
def PFin (σ00 : MS) (S : Nat → Int32) (X : Except En EnvN) (k' : Nat) (err : Int32) (σ' : MS) : Prop := match X with
  | .error e => err = e.1 ∧ e.1 ≠ 0 ∧ σ'.1 3 = e.2 ∧ FrN σ00 σ'
  | .ok E' => err = 0 ∧ PSm σ00 S E' k' σ' ∧ E'.ct 3 ≠ 0
theorem rMeaning {t : Tk} (hT : ∀ X, TkE kw bt len L (cxE t X) σ00) : ∀ (n f : Nat) (E : EnvN) (k k' : Nat) (X : Except En EnvN) (σ : MS), 46 ≤ f + E.nn → PSm σ00 t.1 E k σ → t.1 k ≠ 53 → pgm t n (.ok E) k = some (k', some X) → ∃ err σ', FX11_meaning_0 L f σ = some (err, σ') ∧ PFin σ00 t.1 X k' err σ'
  | 0, _, _, _, _, _, _, _, _, _, hr => by cases hr
  | n+1, f, E, k, k', X, σ, hf, h, h53, hr => by
    have hnn := h.2.2.2.1.nn44
    obtain ⟨f, rfl⟩ : ∃ z, f = z + 1 := ⟨f - 1, by omega⟩
    have hTk : TkE kw bt len L (cxE t (.ok E)) σ := (hT (.ok E)).frN h.1
    have hk : Rk (cxE t (.ok E)).1 k := h.2.2.1
    have hk4 := hk.1
    rw [FX11_meaning_0, h.2.1, if_neg (kin hk), kcl hk, if_neg (fun z => h53 ((rK0 hTk hk).mp z))]
    rw [pgm] at hr
    cases hi : iForm (cxE t (.ok E)) k with
    | none => rw [hi] at hr; cases hr
    | some q =>
      obtain ⟨k1, o⟩ := q
      rw [hi] at hr
      cases o with
      | none => cases hr
      | some m =>
        have hr : (if t.1 k1 = 53 then some (k1, some (xEnd t (xAdd t (.ok E) k m) k1)) else pgm t n (xAdd t (.ok E) k m) k1) = some (k', some X) := hr
        obtain ⟨err, σ1, e1, p⟩ := rItemM (hT (.ok E)) h hi
        rw [e1, b2r]
        cases hx : xAdd t (.ok E) k m with
        | error e =>
          rw [hx] at p hr
          obtain ⟨p1, p2, p3, p4⟩ := p
          rw [if_neg (by rw [p1]; exact p2)]
          have : X = .error e := by
            by_cases z : t.1 k1 = 53
            · rw [if_pos z] at hr
              exact (Option.some.inj (Prod.ext_iff.mp (Option.some.inj hr)).2).symm
            · rw [if_neg z] at hr
              exact pgmErr n k1 k' X hr
          subst this
          exact ⟨_, _, rfl, p1, p2, p3, p4⟩
        | ok E' =>
          rw [hx] at p hr
          obtain ⟨p1, p2⟩ := p
          rw [if_pos p1]
          have hnn' : E'.nn = E.nn + 1 := by
            have hx2 : iAdd E (cxE t (.ok E)) k m = .ok E' := hx
            unfold iAdd at hx2
            cases hp : iPre E (cxE t (.ok E)) k with
            | some e => rw [hp] at hx2; cases hx2
            | none =>
              rw [hp] at hx2
              cases m with
              | error e => cases hx2
              | ok D =>
                have := Except.ok.inj hx2
                rw [← this]; rfl
          by_cases z : t.1 k1 = 53
          · rw [if_pos z] at hr
            have e1 := Option.some.inj hr
            have ek : k1 = k' := (Prod.ext_iff.mp e1).1
            have eX : xEnd t (.ok E') k1 = X := Option.some.inj (Prod.ext_iff.mp e1).2
            subst ek; subst eX
            obtain ⟨f, rfl⟩ : ∃ y, f = y + 1 := ⟨f - 1, by have := p2.2.2.2.1.nn44; omega⟩
            have hTk1 : TkE kw bt len L (cxE t (.ok E')) (sI σ1 7 (σ1.1 7 + 1)) := (hT (.ok E')).frN p2.1
            have hk1 : Rk (cxE t (.ok E')).1 k1 := p2.2.2.1
            have c3 : (sI σ1 7 (σ1.1 7 + 1)).2.1 23 (3 : Int32).toNatClampNeg = nI (E'.ct 3) := by
              obtain ⟨-, -, -, hE', nx, -, -, -, -, hR⟩ := p2
              exact hR.1.2.2.1 3 (by decide)
            have hc3 : E'.ct 3 ≤ 12 := p2.2.2.2.1.2.1 3 (by decide)
            have z0 : (nI (E'.ct 3) = 0) ↔ E'.ct 3 = 0 := by rw [show (0 : Int32) = nI 0 from rfl, nI_eq (by omega) (by omega)]
            rw [FX11_meaning_0, p2.2.1, if_neg (kin hk1), kcl hk1, if_pos ((rK0 hTk1 hk1).mpr z), if_neg (by decide), c3]
            unfold xEnd
            by_cases z3 : E'.ct 3 = 0
            · rw [if_pos (z0.mpr z3), rWr hTk1 hk1, b2r]
              simp only [z3, if_true]
              exact ⟨_, _, rfl, rfl, (show (6 : Int32) ≠ 0 by decide), sI_g, p2.1.int (Or.inl rfl)⟩
            · rw [if_neg (fun y => z3 (z0.mp y))]
              simp only [z3, if_false]
              exact ⟨_, _, rfl, rfl, p2, z3⟩
          · rw [if_neg z] at hr
            exact rMeaning hT n f E' k1 k' X _ (by omega) p2 z hr
end RC
