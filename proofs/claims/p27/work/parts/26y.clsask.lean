-- the class reads a question
def qst (c : Cx) : Option Rs := rb (spX c 700 0 0 0) fun k m => if c.1 k = 53 then some (k, some m) else some (k, none)
theorem qst_tot {c : Cx} : ∃ r, qst c = some r ∧ ∀ m, r.2 = some m → r.1 ≤ 400 := by
  obtain ⟨⟨k, o⟩, e, p⟩ := (tot700 (c := c) (k := 0) (by decide)).1
  rw [qst, e]
  cases o with
  | none => exact ⟨_, rfl, fun m h => by cases h⟩
  | some m =>
    have hk := (p m rfl).2
    show ∃ r, (if c.1 k = 53 then some (k, some m) else some (k, none)) = some r ∧ _
    by_cases z : c.1 k = 53
    · rw [if_pos z]; exact ⟨_, rfl, fun _ _ => hk⟩
    · rw [if_neg z]; exact ⟨_, rfl, fun m h => by cases h⟩
section AQ
variable {τ τ0 τ1 σ : CS} {L n : Nat} {E : EnvN}
/-- what the class makes of a question -/
def QQu (τ3 : CS) (t : Tk) (n p0 : Nat) (r : Rs) (a : Int32) (σ' : CS) : Prop := Fr τ3 (p0, p0 + 400) σ' ∧ match r with
  | (k', none) => σ'.1 4307 = 1 ∧ σ'.1 4308 = t.2.1 k'
  | (_, some (.error e)) => e.1 ≠ 0 ∧ σ'.1 4307 = e.1 ∧ σ'.1 4308 = e.2
  | (_, some (.ok D)) => σ'.1 4307 = 0 ∧ σ'.1 4308 = -1 ∧ ∃ nx q, σ'.1 1307 = nI nx ∧ p0 ≤ nx ∧ nx ≤ p0 + 400 ∧ a = nI q ∧ Vx (fun q => q < n) p0 nx q ∧ dnV (ntC σ') q = D.1 ∧ dnR (ntC σ') (σ'.2.2.1 17) q = D.2 ∧ okT (Vx (fun q => q < n) p0 nx) (ntC σ') ∧ ∀ q, Vx (fun q => q < n) p0 nx q → bdC σ' q
theorem fail2 {p : Int32} (h : Bad p σ) : Tr (FX4_fail σ) (fun _ s => s.1 4307 = 1 ∧ s.1 4308 = p) := by
  rw [FX4_fail]
  rcases h.2 with ⟨h1, h2, h3⟩ | ⟨h1, h2⟩
  · rw [if_neg (by rw [h1]; decide)]
    exact ⟨(), σ, rfl, h2, h3⟩
  · rw [if_pos h1]
    exact ⟨(), _, rfl, (show (tI (tI (tI (tI σ 4309 1) 4307 1) 4308 (σ.1 4305)) 4304 54).1 4307 = 1 by rw [tI_o (by decide), tI_o (by decide), tI_g]), (show (tI (tI (tI (tI σ 4309 1) 4307 1) 4308 (σ.1 4305)) 4304 54).1 4308 = p by rw [tI_o (by decide), tI_g]; exact h2)⟩
theorem fail3 {p : Int32} (h1 : σ.1 4309 = 0) (h2 : σ.1 4305 = p) : Tr (FX4_fail σ) (fun _ s => s.1 4307 = 1 ∧ s.1 4308 = p) := by
  rw [FX4_fail, if_pos h1]
  exact ⟨(), _, rfl, (show (tI (tI (tI (tI σ 4309 1) 4307 1) 4308 (σ.1 4305)) 4304 54).1 4307 = 1 by rw [tI_o (by decide), tI_o (by decide), tI_g]), (show (tI (tI (tI (tI σ 4309 1) 4307 1) 4308 (σ.1 4305)) 4304 54).1 4308 = p by rw [tI_o (by decide), tI_g]; exact h2)⟩
theorem cQuestion {t : Tk} {p0 : Nat} {r : Rs} (hL : 2000 ≤ L) (hT : TkC t τ) (hN : NumOK (cxE t (.ok E))) (hE : EnvOK E) (hC : ClsE E n τ) (hok : okT (fun q => q < n) (ntC τ)) (hB : ∀ q, q < n → bdC τ q) (hn : n ≤ p0) (hp : p0 + 400 ≤ 1200) (hr : qst (cxE t (.ok E)) = some r) : ∃ τ3, (∀ j, j ≠ 1307 → j ≠ 1308 → (j < 4303 ∨ 4309 < j) → τ3.1 j = τ.1 j) ∧ (∀ j, j ≠ 4306 → τ3.2.1 j = τ.2.1 j) ∧ τ3.2.2 = τ.2.2 ∧ Tr (FX4_readQuestion L (nI p0) τ) (QQu τ3 t n p0 r) := by
  have hk0 : Rk t.1 0 := ⟨by decide, fun j hj => absurd hj (Nat.not_lt_zero _)⟩
  obtain ⟨t1, t2, t3⟩ := hT 0 hk0
  rw [FX4_readQuestion, FX4_beginAt, FX3_beginAt, b2r, FX4_advance]
  have e9 : (tI (tI (tI (tI (tI (tI τ 1307 (nI p0)) 1308 (nI p0 + 400)) 4307 0) 4308 (-1)) 4309 0) 4303 (-1)).1 4309 = 0 := by rw [tI_o (by decide), tI_g]
  have e3 : (tI (tI (tI (tI (tI (tI τ 1307 (nI p0)) 1308 (nI p0 + 400)) 4307 0) 4308 (-1)) 4309 0) 4303 (-1)).1 4303 + 1 = nI 0 := by rw [tI_g]; decide
  rw [if_pos e9, e3, gI (by decide) (by decide), gI (by decide) (by decide), gL (by decide) (by decide), b2r, b2r]
  have hX : ∃ τ3, τ3 = tL (tI (tI (tI (tI (tI (tI (tI (tI (tI τ 1307 (nI p0)) 1308 (nI p0 + 400)) 4307 0) 4308 (-1)) 4309 0) 4303 (-1)) 4303 (nI 0)) 4304 (τ.2.2.1 8 0)) 4305 (τ.2.2.1 10 0)) 4306 (τ.2.2.2.1 12 0) := ⟨_, rfl⟩
  obtain ⟨τ3, hσ⟩ := hX
  have i : ∀ j, τ3.1 j = (tI (tI (tI (tI (tI (tI (tI (tI (tI τ 1307 (nI p0)) 1308 (nI p0 + 400)) 4307 0) 4308 (-1)) 4309 0) 4303 (-1)) 4303 (nI 0)) 4304 (τ.2.2.1 8 0)) 4305 (τ.2.2.1 10 0)).1 j := fun j => by rw [hσ]
  have l6 : τ3.2.1 4306 = τ.2.2.2.1 12 0 := by
    rw [hσ]
    show va_up τ.2.1 4306 (τ.2.2.2.1 12 0) 4306 = _
    exact up_s
  have r2 : τ3.2.2 = τ.2.2 := by rw [hσ]
  have i7 : τ3.1 4307 = 0 := by rw [i, tI_o (by decide), tI_o (by decide), tI_o (by decide), tI_o (by decide), tI_o (by decide), tI_o (by decide), tI_g]
  have i8 : τ3.1 4308 = -1 := by rw [i, tI_o (by decide), tI_o (by decide), tI_o (by decide), tI_o (by decide), tI_o (by decide), tI_g]
  have i9 : τ3.1 4309 = 0 := by rw [i, tI_o (by decide), tI_o (by decide), tI_o (by decide), tI_o (by decide), tI_g]
  have i3 : τ3.1 4303 = nI 0 := by rw [i, tI_o (by decide), tI_o (by decide), tI_g]
  have i4 : τ3.1 4304 = τ.2.2.1 8 0 := by rw [i, tI_o (by decide), tI_g]
  have i5 : τ3.1 4305 = τ.2.2.1 10 0 := by rw [i, tI_g]
  have a7 : τ3.1 1307 = nI p0 := by rw [i, tI_o (by decide), tI_o (by decide), tI_o (by decide), tI_o (by decide), tI_o (by decide), tI_o (by decide), tI_o (by decide), tI_o (by decide), tI_g]
  have a8 : τ3.1 1308 = nI (p0 + 400) := by
    rw [i, tI_o (by decide), tI_o (by decide), tI_o (by decide), tI_o (by decide), tI_o (by decide), tI_o (by decide), tI_o (by decide), tI_g, show (400 : Int32) = nI 400 from rfl, nI_add]
  have io : ∀ j, j ≠ 1307 → j ≠ 1308 → (j < 4303 ∨ 4309 < j) → τ3.1 j = τ.1 j := by
    intro j h1 h2 h3
    rw [i, tI_o (by omega), tI_o (by omega), tI_o (by omega), tI_o (by omega), tI_o (by omega), tI_o (by omega), tI_o (by omega), tI_o (by omega), tI_o (by omega)]
  have lo6 : ∀ j, j ≠ 4306 → τ3.2.1 j = τ.2.1 j := by
    intro j h1
    rw [hσ]
    exact up_n h1
  refine ⟨τ3, io, lo6, r2, ?_⟩
  have hT3 : TkC t τ3 := fun k hk => by rw [r2]; exact hT k hk
  have C3 : ClsE E n τ3 := by
    obtain ⟨n1, n2⟩ := hC
    have nt : ntC τ3 = ntC τ := by unfold ntC; rw [r2]
    exact ⟨by rw [io 2807 (by decide) (by decide) (by decide)]; exact n1, by rw [nt, r2]; exact n2⟩
  have hok3 : okT (fun q => q < n) (ntC τ3) := by
    have nt : ntC τ3 = ntC τ := by unfold ntC; rw [r2]
    rw [nt]; exact hok
  have hB3 : ∀ q, q < n → bdC τ3 q := fun q hq => by
    have := hB q hq
    unfold bdC at this ⊢
    rw [r2]; exact this
  have hct : CtP (cxE t (.ok E)) τ3 (fun q => q < n) (p0, p0 + 400) L := ⟨hT3, hp, fun q hq => by have hq : q < n := hq; show q < p0; omega, hL, a8, fun w s hs => cFind_tot (hs.1.trans C3.1) hE.nn44 hL⟩
  have hV : Vx (fun q => q < n) p0 p0 = fun q => q < n := funext fun q => propext ⟨fun z => z.elim id (fun y => by omega), fun z => Or.inl z⟩
  have hSt : St (cxE t (.ok E)) τ3 (fun q => q < n) (p0, p0 + 400) L none p0 0 τ3 := by
    refine ⟨⟨fun _ _ _ => rfl, fun _ _ => rfl, fun _ _ => rfl, fun _ _ _ => rfl, rfl, p0, a7, Nat.le_refl p0, by show p0 ≤ p0 + 400; omega⟩, ⟨hk0, i9, i3, i4.trans t1, i5.trans t2, fun z => l6.trans (t3 z)⟩, C3.gc hE hL hok3 hB3 rfl, i7, ⟨a7, Nat.le_refl p0, ?_, ?_⟩, Nat.le_refl _, i8⟩
    · show okT (Vx (fun q => q < n) p0 p0) (ntC τ3)
      rw [hV]; exact hok3
    · intro q hq
      have hq : Vx (fun q => q < n) p0 p0 q := hq
      rw [hV] at hq; exact hB3 q hq
  have d4 : dSC4 = 200 := rfl
  have main : Tr (b2 (FSC4 L dSC4 0 0 τ3) fun r_2 σ_2 => if (σ_2.1 4304) = (53 : Int32) then some (r_2, σ_2) else b2 (FX4_fail σ_2) fun (_ : Unit) σ_4 => some (r_2, σ_4)) (QQu τ3 t n p0 r) := by
    rw [d4]
    rw [qst] at hr
    rcases rbI hr with ⟨k1, h1, rfl⟩ | ⟨k1, m, h1, h2⟩
    · refine ((clsOK hct hN 700).1 0 0 p0 none τ3 200 (by decide) (by decide) hSt _ h1).bind (fun a σ' q => ?_)
      have q : BdS τ3 (p0, p0 + 400) (t.2.1 k1) σ' := q
      rw [if_neg (by rw [q.2.1]; decide)]
      exact ((badFail q).and (fail2 q.2)).bind (fun _ s z => Tr.ret ⟨z.1.1, z.2⟩)
    · refine ((clsOK hct hN 700).1 0 0 p0 none τ3 200 (by decide) (by decide) hSt _ h1).bind (fun a σ' q => ?_)
      obtain ⟨nx, l1, ⟨s1, s2, s3⟩, s4⟩ := q
      have h4 : σ'.1 4304 = tS t.1 k1 := s2.2.2.2.1
      have hk1 : k1 ≤ 400 := s2.1.1
      rw [h4]
      by_cases z : t.1 k1 = 53
      · have h2 : (if t.1 k1 = 53 then some (k1, some m) else some (k1, none)) = some r := h2
        rw [if_pos z] at h2
        obtain rfl := Option.some.inj h2
        rw [if_pos (by rw [tS, if_neg (fun y => y.2 z)]; exact z)]
        cases m with
        | error e => exact Tr.ret ⟨s1, s3⟩
        | ok D =>
          obtain ⟨m1, m2, ⟨m3, m4, m5, m6⟩, m7, m8⟩ := s3
          obtain ⟨x1, ⟨q, y1, y2, y3, y4⟩, x3⟩ := s4 rfl D rfl
          refine Tr.ret ⟨s1, m2, m8, nx, q, m3, l1, by omega, y1, y2, y3, y4 rfl, m5, m6⟩
      · have h2 : (if t.1 k1 = 53 then some (k1, some m) else some (k1, none)) = some r := h2
        rw [if_neg z] at h2
        obtain rfl := Option.some.inj h2
        rw [if_neg (by
          rw [tS]
          split
          · decide
          · exact z)]
        have hf : Tr (FX4_fail σ') (fun _ s => BdS τ3 (p0, p0 + 400) (t.2.1 k1) s) := failed ⟨s1, s2, s3⟩
        exact (hf.and (fail3 s2.2.1 s2.2.2.2.2.1)).bind (fun _ s z => Tr.ret ⟨z.1.1, z.2⟩)
  subst hσ
  exact main
end AQ
