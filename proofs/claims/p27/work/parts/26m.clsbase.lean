-- the class's parser: what holds while it reads
theorem oR_congr2 {kd lo lo' hi hi' pl pl' : Int32} {A A' : Vl} {ra rb ra' rb' : Rz} (hb : kd = 5 → lo = lo' ∧ hi = hi') (hp : kd ≠ 8 ∧ kd ≠ 11 ∧ kd ≠ 12 ∧ kd ≠ 13 → pl = pl') (hA : kd = 11 ∨ kd = 5 → A = A') (ha : kd = 11 ∨ kd = 5 ∨ kd = 8 ∨ kd = 1 → ra = ra') (hr : kd = 11 ∨ kd = 12 ∨ kd = 13 → rb = rb') : oR kd lo hi pl A ra rb = oR kd lo' hi' pl' A' ra' rb' := by
  funext h i
  unfold oR opR
  by_cases k1 : kd = 11
  · rw [if_pos k1, if_pos k1, hA (Or.inl k1), ha (Or.inl k1), hr (Or.inl k1)]
  rw [if_neg k1, if_neg k1]
  by_cases k2 : kd = 12
  · rw [if_pos k2, if_pos k2, hr (Or.inr (Or.inl k2))]
  rw [if_neg k2, if_neg k2]
  by_cases k3 : kd = 13
  · rw [if_pos k3, if_pos k3, hr (Or.inr (Or.inr k3))]
  rw [if_neg k3, if_neg k3]
  by_cases k5 : kd = 5
  · obtain ⟨e1, e2⟩ := hb k5
    rw [if_pos k5, if_pos k5, hA (Or.inr k5), ha (Or.inr (Or.inl k5)), e1, e2, hp ⟨by rw [k5]; decide, k1, k2, k3⟩]
  rw [if_neg k5, if_neg k5]
  by_cases k8 : kd = 8
  · rw [if_pos k8, if_pos k8, ha (Or.inr (Or.inr (Or.inl k8)))]
  rw [if_neg k8, if_neg k8]
  have ep := hp ⟨k8, k1, k2, k3⟩
  by_cases k9 : kd = 1
  · rw [if_pos k9, if_pos k9, ha (Or.inr (Or.inr (Or.inr k9))), ep]
  · rw [if_neg k9, if_neg k9, ep]
theorem oR_13 {lo hi pl : Int32} {A : Vl} {ra rb : Rz} : oR 13 lo hi pl A ra rb = rb := by funext h i; simp [oR, opR]
def Tr {α : Type} (x : Option (α × CS)) (Q : α → CS → Prop) : Prop := ∃ a σ', x = some (a, σ') ∧ Q a σ'
theorem Tr.bind {α β : Type} {x : Option (α × CS)} {f : α → CS → Option (β × CS)} {Q : α → CS → Prop} {R : β → CS → Prop} (h : Tr x Q) (k : ∀ a σ', Q a σ' → Tr (f a σ') R) : Tr (b2 x f) R := by
  obtain ⟨a, σ', e, q⟩ := h
  rw [e, b2r]
  exact k a σ' q
theorem Tr.ret {α : Type} {a : α} {σ : CS} {Q : α → CS → Prop} (h : Q a σ) : Tr (some (a, σ)) Q := ⟨a, σ, rfl, h⟩
theorem Tr.mono {α : Type} {x : Option (α × CS)} {Q R : α → CS → Prop} (h : Tr x Q) (k : ∀ a σ', Q a σ' → R a σ') : Tr x R := by
  obtain ⟨a, σ', e, q⟩ := h
  exact ⟨a, σ', e, k a σ' q⟩
def nNR (j : Nat) : Prop := j ≠ 15 ∧ j ≠ 17 ∧ j ≠ 19 ∧ j ≠ 21 ∧ j ≠ 23 ∧ j ≠ 25 ∧ j ≠ 27
section CP
variable {c : Cx} {τ0 σ σ1 σ2 : CS} {V0 : Nat → Prop} {lo : Nat × Nat} {L k nx : Nat} {md : Option En} {p : Int32}
/-- what a reading leaves as it is -/
def Fr (τ0 : CS) (lo : Nat × Nat) (σ : CS) : Prop := (∀ j, (j < 4303 ∨ 4311 < j) → j ≠ 1307 → σ.1 j = τ0.1 j) ∧ (∀ j, j ≠ 4306 → σ.2.1 j = τ0.2.1 j) ∧ (∀ j, nNR j → σ.2.2.1 j = τ0.2.2.1 j) ∧ (∀ j q, (q < lo.1 ∨ lo.2 ≤ q) → σ.2.2.1 j q = τ0.2.2.1 j q) ∧ σ.2.2.2 = τ0.2.2.2 ∧ ∃ n, σ.1 1307 = nI n ∧ lo.1 ≤ n ∧ n ≤ lo.2
def NmE (τ0 σ : CS) : Prop := σ.1 2807 = τ0.1 2807 ∧ σ.2.2.2.1 30 = τ0.2.2.2.1 30
theorem Fr.nm (h : Fr τ0 lo σ) : NmE τ0 σ := ⟨h.1 2807 (by decide) (by decide), by rw [h.2.2.2.2.1]⟩
/-- what a reading rests on -/
def CtP (c : Cx) (τ0 : CS) (V0 : Nat → Prop) (lo : Nat × Nat) (L : Nat) : Prop := (∀ k, Rk c.1 k → τ0.2.2.1 8 k = tS c.1 k ∧ τ0.2.2.1 10 k = c.2.1 k ∧ (c.1 k = 51 ∨ c.1 k = 52 → τ0.2.2.2.1 12 k = c.2.2.1 k)) ∧ lo.2 ≤ 1200 ∧ (∀ q, V0 q → q < lo.1) ∧ 2000 ≤ L ∧ τ0.1 1308 = nI (lo.2) ∧ ∀ w σ, NmE τ0 σ → ∃ r, FX5_find L w σ = some (r, σ)
/-- what the names stand for -/
def GC (c : Cx) (τ0 : CS) (V0 : Nat → Prop) (L : Nat) : Prop := okT V0 (ntC τ0) ∧ (∀ q, V0 q → bdC τ0 q) ∧ ∀ w, (c.2.2.2 w = none → ∀ σ, NmE τ0 σ → FX5_find L w σ = some (-1, σ)) ∧ ∀ s n D, c.2.2.2 w = some (s, n, D) → ∃ j, j < 44 ∧ (∀ σ, NmE τ0 σ → FX5_find L w σ = some (nI j, σ)) ∧ τ0.2.2.1 32 j = s ∧ (s = 0 ∨ s = 1 ∨ s = 2 ∨ s = 3) ∧ (s = 0 → τ0.2.2.1 34 j = n ∧ ∃ m, m < 8 ∧ n = nI m) ∧ (s ≠ 0 → ∃ q, V0 q ∧ τ0.2.2.1 34 j = nI q ∧ dnV (ntC τ0) q = D.1 ∧ (s = 1 ∨ s = 3 → dnR (ntC τ0) (τ0.2.2.1 17) q = D.2))
def Vx (V0 : Nat → Prop) (b nx : Nat) (q : Nat) : Prop := V0 q ∨ (b ≤ q ∧ q < nx)
def CI (V0 : Nat → Prop) (lo : Nat × Nat) (nx : Nat) (σ : CS) : Prop := σ.1 1307 = nI nx ∧ lo.1 ≤ nx ∧ okT (Vx V0 lo.1 nx) (ntC σ) ∧ ∀ q, Vx V0 lo.1 nx q → bdC σ q
def MD (c : Cx) (τ0 : CS) (V0 : Nat → Prop) (lo : Nat × Nat) (L : Nat) (md : Option En) (nx k : Nat) (σ : CS) : Prop := match md with
  | none => GC c τ0 V0 L ∧ σ.1 4307 = 0 ∧ CI V0 lo nx σ ∧ nx + 400 ≤ lo.2 + k ∧ σ.1 4308 = -1
  | some e => e.1 ≠ 0 ∧ σ.1 4307 = e.1 ∧ σ.1 4308 = e.2
def Sy (c : Cx) (k : Nat) (σ : CS) : Prop := Rk c.1 k ∧ σ.1 4309 = 0 ∧ σ.1 4303 = nI k ∧ σ.1 4304 = tS c.1 k ∧ σ.1 4305 = c.2.1 k ∧ (c.1 k = 51 ∨ c.1 k = 52 → σ.2.1 4306 = c.2.2.1 k)
def Bad (p : Int32) (σ : CS) : Prop := σ.1 4304 = 54 ∧ ((σ.1 4309 = 1 ∧ σ.1 4307 = 1 ∧ σ.1 4308 = p) ∨ (σ.1 4309 = 0 ∧ σ.1 4305 = p))
def St (c : Cx) (τ0 : CS) (V0 : Nat → Prop) (lo : Nat × Nat) (L : Nat) (md : Option En) (nx k : Nat) (σ : CS) : Prop := Fr τ0 lo σ ∧ Sy c k σ ∧ MD c τ0 V0 lo L md nx k σ
def BdS (τ0 : CS) (lo : Nat × Nat) (p : Int32) (σ : CS) : Prop := Fr τ0 lo σ ∧ Bad p σ
/-- only the token at hand and the bounds have changed -/
def Ch (σ σ' : CS) : Prop := (∀ j, j ≠ 4303 → j ≠ 4304 → j ≠ 4305 → j ≠ 4310 → j ≠ 4311 → σ'.1 j = σ.1 j) ∧ (∀ j, j ≠ 4306 → σ'.2.1 j = σ.2.1 j) ∧ σ'.2.2 = σ.2.2
theorem Ch.trans (h : Ch σ σ1) (g : Ch σ1 σ2) : Ch σ σ2 := ⟨fun j a b d e f => (g.1 j a b d e f).trans (h.1 j a b d e f), fun j a => (g.2.1 j a).trans (h.2.1 j a), g.2.2.trans h.2.2⟩
theorem Ch.refl : Ch σ σ := ⟨fun _ _ _ _ _ _ => rfl, fun _ _ => rfl, rfl⟩
theorem Fr.ch (h : Fr τ0 lo σ) (g : Ch σ σ1) : Fr τ0 lo σ1 := by
  obtain ⟨a, b, d, e, f, n, hn⟩ := h
  refine ⟨fun j h1 h2 => ?_, fun j h1 => (g.2.1 j h1).trans (b j h1), fun j h1 => ?_, fun j q h1 => ?_, ?_, n, ?_, hn.2⟩
  · rw [g.1 j (by omega) (by omega) (by omega) (by omega) (by omega)]; exact a j h1 h2
  · rw [g.2.2]; exact d j h1
  · rw [g.2.2]; exact e j q h1
  · rw [g.2.2]; exact f
  · rw [g.1 1307 (by decide) (by decide) (by decide) (by decide) (by decide)]; exact hn.1
theorem CI.ch (h : CI V0 lo nx σ) (g : Ch σ σ1) : CI V0 lo nx σ1 := by
  obtain ⟨a, b, d, e⟩ := h
  have q : ntC σ1 = ntC σ := by unfold ntC; rw [g.2.2]
  refine ⟨by rw [g.1 1307 (by decide) (by decide) (by decide) (by decide) (by decide)]; exact a, b, by rw [q]; exact d, fun q hq => ?_⟩
  have := e q hq
  unfold bdC at this ⊢
  rw [g.2.2]; exact this
theorem MD.ch (h : MD c τ0 V0 lo L md nx k σ) (g : Ch σ σ1) {k1 : Nat} (hk : k ≤ k1) : MD c τ0 V0 lo L md nx k1 σ1 := by
  have e7 := g.1 4307 (by decide) (by decide) (by decide) (by decide) (by decide)
  have e8 := g.1 4308 (by decide) (by decide) (by decide) (by decide) (by decide)
  cases md with
  | none => exact ⟨h.1, by rw [e7]; exact h.2.1, h.2.2.1.ch g, Nat.le_trans h.2.2.2.1 (by omega), by rw [e8]; exact h.2.2.2.2⟩
  | some e => exact ⟨h.1, by rw [e7]; exact h.2.1, by rw [e8]; exact h.2.2⟩
theorem tS_lit {S : Nat → Int32} {s : Int32} (h : tS S k = s) (h1 : s ≠ 54) (h2 : s ≠ 53) : S k = s ∧ k ≠ 400 := by
  unfold tS at h
  split at h
  · exact absurd h.symm h1
  · next e =>
    refine ⟨h, fun e4 => e ⟨e4, ?_⟩⟩
    rw [h]; exact h2
theorem tS_no {S : Nat → Int32} {s : Int32} (h : tS S k ≠ s) (h0 : S k = s) : k = 400 := by
  unfold tS at h
  split at h
  · next e => exact e.1
  · exact absurd h0 h
theorem Sy.bad (h : Sy c k σ) (hu : tS c.1 k = 54) : Bad (c.2.1 k) σ := ⟨h.2.2.2.1.trans hu, Or.inr ⟨h.2.1, h.2.2.2.2.1⟩⟩
theorem un_tS (h : tS c.1 k = 54) : Un c.1 k := by
  unfold tS at h
  split at h
  · next e => exact Or.inr e
  · exact Or.inl h
theorem tS_400 (h : k = 400) (h1 : c.1 k ≠ 53) : tS c.1 k = 54 := by
  unfold tS; rw [if_pos ⟨h, h1⟩]
/-- to the next token -/
theorem adv2 (hc : CtP c τ0 V0 lo L) {kb : Nat} (hF : Fr τ0 lo σ) (hS : Sy c k σ) (hM : MD c τ0 V0 lo L md nx kb σ) {s : Int32} (hs : tS c.1 k = s) (h1 : s ≠ 53) (h2 : s ≠ 54) : ∃ σ', FX4_advance σ = some ((), σ') ∧ Fr τ0 lo σ' ∧ Sy c (k + 1) σ' ∧ MD c τ0 V0 lo L md nx kb σ' ∧ Ch σ σ' := by
  obtain ⟨s1, s2, s3, s4, s5, s6⟩ := hS
  obtain ⟨e1, e2⟩ := tS_lit hs h2 h1
  have hr : Rk c.1 (k + 1) := s1.next e2 (by rw [e1]; exact h1) (by rw [e1]; exact h2)
  have hk := hr.1
  obtain ⟨t1, t2, t3⟩ := hc.1 (k + 1) hr
  rw [FX4_advance, if_pos s2, s3, ← nI_succ, gI (show k + 1 < 401 by omega) (by decide), gI (show k + 1 < 401 by omega) (by decide), gL (show k + 1 < 401 by omega) (by decide)]
  have r8 : σ.2.2.1 8 = τ0.2.2.1 8 := hF.2.2.1 8 (by unfold nNR; decide)
  have r10 : σ.2.2.1 10 = τ0.2.2.1 10 := hF.2.2.1 10 (by unfold nNR; decide)
  have r12 : σ.2.2.2.1 12 = τ0.2.2.2.1 12 := by rw [hF.2.2.2.2.1]
  rw [r8, r10, r12, t1, t2]
  refine ⟨_, rfl, ?_⟩
  have ch : Ch σ (tL (tI (tI (tI σ 4303 (nI (k + 1))) 4304 (tS c.1 (k + 1))) 4305 (c.2.1 (k + 1))) 4306 (τ0.2.2.2.1 12 (k + 1))) := by
    refine ⟨fun j a b d _ _ => ?_, fun j a => up_n a, rfl⟩
    show (tI (tI (tI σ 4303 (nI (k + 1))) 4304 (tS c.1 (k + 1))) 4305 (c.2.1 (k + 1))).1 j = _
    rw [tI_o d, tI_o b, tI_o a]
  refine ⟨hF.ch ch, ⟨hr, ?_, ?_, ?_, ?_, fun h => ?_⟩, hM.ch ch (Nat.le_refl _), ch⟩
  · rw [ch.1 4309 (by decide) (by decide) (by decide) (by decide) (by decide)]; exact s2
  · show (tI (tI (tI σ 4303 (nI (k + 1))) 4304 (tS c.1 (k + 1))) 4305 (c.2.1 (k + 1))).1 4303 = _
    rw [tI_o (by decide), tI_o (by decide), tI_g]
  · show (tI (tI (tI σ 4303 (nI (k + 1))) 4304 (tS c.1 (k + 1))) 4305 (c.2.1 (k + 1))).1 4304 = _
    rw [tI_o (by decide), tI_g]
  · show (tI (tI (tI σ 4303 (nI (k + 1))) 4304 (tS c.1 (k + 1))) 4305 (c.2.1 (k + 1))).1 4305 = _
    rw [tI_g]
  · show va_up σ.2.1 4306 (τ0.2.2.2.1 12 (k + 1)) 4306 = _
    rw [up_s]; exact t3 h
theorem adv (hc : CtP c τ0 V0 lo L) (h : St c τ0 V0 lo L md nx k σ) {s : Int32} (hs : tS c.1 k = s) (h1 : s ≠ 53) (h2 : s ≠ 54) : ∃ σ', FX4_advance σ = some ((), σ') ∧ St c τ0 V0 lo L md nx (k + 1) σ' ∧ Ch σ σ' := by
  obtain ⟨σ', e, a, b, d, f⟩ := adv2 hc h.1 h.2.1 h.2.2 hs h1 h2
  exact ⟨σ', e, ⟨a, b, d.ch Ch.refl (by omega)⟩, f⟩
theorem failed (h : St c τ0 V0 lo L md nx k σ) : Tr (FX4_fail σ) (fun _ σ' => BdS τ0 lo (c.2.1 k) σ') := by
  obtain ⟨hF, ⟨s1, s2, s3, s4, s5, s6⟩, hM⟩ := h
  rw [FX4_fail, if_pos s2]
  refine Tr.ret ⟨?_, ?_, Or.inl ⟨?_, ?_, ?_⟩⟩
  · obtain ⟨a, b, d, e, f, n, hn⟩ := hF
    refine ⟨fun j h1 h2 => ?_, b, d, e, f, n, ?_, hn.2⟩
    · rw [tI_o (by omega), tI_o (by omega), tI_o (by omega), tI_o (by omega)]; exact a j h1 h2
    · rw [tI_o (by decide), tI_o (by decide), tI_o (by decide), tI_o (by decide)]; exact hn.1
  · rw [tI_g]
  · rw [tI_o (by decide), tI_o (by decide), tI_o (by decide), tI_g]
  · rw [tI_o (by decide), tI_o (by decide), tI_g]
  · rw [tI_o (by decide), tI_g]; exact s5
theorem badFail (h : BdS τ0 lo p σ) : Tr (FX4_fail σ) (fun _ σ' => BdS τ0 lo p σ') := by
  obtain ⟨hF, hb, hc⟩ := h
  rw [FX4_fail]
  rcases hc with ⟨h1, h2, h3⟩ | ⟨h1, h2⟩
  · rw [if_neg (by rw [h1]; decide)]
    exact Tr.ret ⟨hF, hb, Or.inl ⟨h1, h2, h3⟩⟩
  · rw [if_pos h1]
    refine Tr.ret ⟨?_, ?_, Or.inl ⟨?_, ?_, ?_⟩⟩
    · obtain ⟨a, b, d, e, f, n, hn⟩ := hF
      refine ⟨fun j h1 h2 => ?_, b, d, e, f, n, ?_, hn.2⟩
      · rw [tI_o (by omega), tI_o (by omega), tI_o (by omega), tI_o (by omega)]; exact a j h1 h2
      · rw [tI_o (by decide), tI_o (by decide), tI_o (by decide), tI_o (by decide)]; exact hn.1
    · rw [tI_g]
    · rw [tI_o (by decide), tI_o (by decide), tI_o (by decide), tI_g]
    · rw [tI_o (by decide), tI_o (by decide), tI_g]
    · rw [tI_o (by decide), tI_g]; exact h2
theorem badExpect {s : Int32} (h : BdS τ0 lo p σ) (hs : s ≠ 54) : Tr (FX4_expect s σ) (fun _ σ' => BdS τ0 lo p σ') := by
  rw [FX4_expect, if_neg (by rw [h.2.1]; exact fun e => hs e.symm)]
  exact (badFail h).bind (fun _ σ' q => Tr.ret q)
theorem expS (hc : CtP c τ0 V0 lo L) (h : St c τ0 V0 lo L md nx k σ) {s : Int32} (h1 : s ≠ 53) (h2 : s ≠ 54) : (tS c.1 k = s → ∃ σ', FX4_expect s σ = some ((), σ') ∧ St c τ0 V0 lo L md nx (k + 1) σ' ∧ Ch σ σ') ∧ (tS c.1 k ≠ s → Tr (FX4_expect s σ) (fun _ σ' => BdS τ0 lo (c.2.1 k) σ')) := by
  refine ⟨fun hs => ?_, fun hs => ?_⟩
  · obtain ⟨σ', e, q⟩ := adv hc h hs h1 h2
    exact ⟨σ', by rw [FX4_expect, if_pos (by rw [h.2.1.2.2.2.1]; exact hs), e, b2r], q⟩
  · rw [FX4_expect, if_neg (by rw [h.2.1.2.2.2.1]; exact hs)]
    exact (failed h).bind (fun _ σ' q => Tr.ret q)
/-- where the grammar expects a token -/
theorem exI {s : Int32} {f : Nat → Option Rs} {r : Rs} (h1 : s ≠ 53) (h2 : s ≠ 54) (h : ex c s k f = some r) : (tS c.1 k = s ∧ f (k + 1) = some r) ∨ (tS c.1 k ≠ s ∧ r = (k, none)) := by
  unfold ex at h
  by_cases e : c.1 k = s
  · rw [if_pos e, go] at h
    by_cases e4 : k = 400
    · rw [if_pos e4] at h
      exact Or.inr ⟨by rw [tS_400 e4 (by rw [e]; exact h1)]; exact fun q => h2 q.symm, (Option.some.inj h).symm⟩
    · rw [if_neg e4] at h
      exact Or.inl ⟨by unfold tS; rw [if_neg (fun q => e4 q.1)]; exact e, h⟩
  · rw [if_neg e] at h
    refine Or.inr ⟨fun q => e (tS_lit q h2 h1).1, (Option.some.inj h).symm⟩
theorem goI {s : Int32} {f : Nat → Option Rs} {r : Rs} (h1 : s ≠ 53) (hs : c.1 k = s) (h : go k f = some r) : (tS c.1 k = s ∧ f (k + 1) = some r) ∨ (tS c.1 k = 54 ∧ r = (k, none)) := by
  rw [go] at h
  by_cases e4 : k = 400
  · rw [if_pos e4] at h
    exact Or.inr ⟨tS_400 e4 (by rw [hs]; exact h1), (Option.some.inj h).symm⟩
  · rw [if_neg e4] at h
    exact Or.inl ⟨by unfold tS; rw [if_neg (fun q => e4 q.1)]; exact hs, h⟩
theorem rbI {x : Option Rs} {f : Nat → MV → Option Rs} {r : Rs} (h : rb x f = some r) : (∃ k1, x = some (k1, none) ∧ r = (k1, none)) ∨ ∃ k1 m, x = some (k1, some m) ∧ f k1 m = some r := by
  cases x with
  | none => cases h
  | some q =>
    obtain ⟨k1, o⟩ := q
    cases o with
    | none => exact Or.inl ⟨k1, rfl, (Option.some.inj h).symm⟩
    | some m => exact Or.inr ⟨k1, m, rfl, h⟩
theorem ext4 {σ : CS} {j : Nat} {v : Int32} (h : j ≠ 1307) : (tI σ 1307 v).1 j = σ.1 j := tI_o h
/-- a new part -/
def NodeS (nx : Nat) (s p a b t l h : Int32) (σ σ' : CS) : Prop := σ'.1 1307 = nI (nx + 1) ∧ σ'.2.2.1 15 nx = s ∧ σ'.2.2.1 17 nx = p ∧ σ'.2.2.1 19 nx = a ∧ σ'.2.2.1 21 nx = b ∧ σ'.2.2.1 23 nx = t ∧ σ'.2.2.1 25 nx = l ∧ σ'.2.2.1 27 nx = h ∧ ∀ q, q ≠ nx → ∀ j, σ'.2.2.1 j q = σ.2.2.1 j q
/-- what an adding leaves: all but the parts and their number -/
def Ad (lo : Nat × Nat) (σ σ' : CS) : Prop := (∀ j, j ≠ 1307 → σ'.1 j = σ.1 j) ∧ σ'.2.1 = σ.2.1 ∧ (∀ j, nNR j → σ'.2.2.1 j = σ.2.2.1 j) ∧ (∀ j q, (q < lo.1 ∨ lo.2 ≤ q) → σ'.2.2.1 j q = σ.2.2.1 j q) ∧ σ'.2.2.2 = σ.2.2.2 ∧ ∃ n, σ'.1 1307 = nI n ∧ lo.1 ≤ n ∧ n ≤ lo.2
theorem Ad.trans (h : Ad lo σ σ1) (g : Ad lo σ1 σ2) : Ad lo σ σ2 := ⟨fun j a => (g.1 j a).trans (h.1 j a), g.2.1.trans h.2.1, fun j a => (g.2.2.1 j a).trans (h.2.2.1 j a), fun j q a => (g.2.2.2.1 j q a).trans (h.2.2.2.1 j q a), g.2.2.2.2.1.trans h.2.2.2.2.1, g.2.2.2.2.2⟩
theorem Fr.ad (h : Fr τ0 lo σ) (g : Ad lo σ σ1) : Fr τ0 lo σ1 := ⟨fun j a b => (g.1 j b).trans (h.1 j a b), fun j a => by rw [g.2.1]; exact h.2.1 j a, fun j a => (g.2.2.1 j a).trans (h.2.2.1 j a), fun j q a => (g.2.2.2.1 j q a).trans (h.2.2.2.1 j q a), g.2.2.2.2.1.trans h.2.2.2.2.1, g.2.2.2.2.2⟩
theorem Sy.ad (h : Sy c k σ) (g : Ad lo σ σ1) : Sy c k σ1 := by
  obtain ⟨s1, s2, s3, s4, s5, s6⟩ := h
  refine ⟨s1, ?_, ?_, ?_, ?_, fun e => ?_⟩
  · rw [g.1 _ (by decide)]; exact s2
  · rw [g.1 _ (by decide)]; exact s3
  · rw [g.1 _ (by decide)]; exact s4
  · rw [g.1 _ (by decide)]; exact s5
  · rw [g.2.1]; exact s6 e
theorem BdS.ad (h : BdS τ0 lo p σ) (g : Ad lo σ σ1) : BdS τ0 lo p σ1 := by
  obtain ⟨a, b, d⟩ := h
  refine ⟨a.ad g, by rw [g.1 _ (by decide)]; exact b, ?_⟩
  rw [g.1 4309 (by decide), g.1 4307 (by decide), g.1 4308 (by decide), g.1 4305 (by decide)]; exact d
theorem upd_s {f : Nat → Int32} {q : Nat} {v : Int32} : upd f q v q = v := by unfold upd; rw [if_pos rfl]
theorem upd_n {f : Nat → Int32} {q r : Nat} {v : Int32} (h : r ≠ q) : upd f q v r = f r := by unfold upd; rw [if_neg h]
theorem tA_one {σ : CS} {r q j r2 : Nat} {v : Int32} : (tA σ r (upd (σ.2.2.1 r) q v)).2.2.1 j r2 = if j = r ∧ r2 = q then v else σ.2.2.1 j r2 := by
  by_cases h : j = r
  · subst h
    rw [tA_row]
    by_cases h2 : r2 = q
    · subst h2; rw [upd_s, if_pos ⟨rfl, rfl⟩]
    · rw [upd_n h2, if_neg (fun e => h2 e.2)]
  · rw [tA_o h, if_neg (fun e => h e.1)]
theorem cAdd {s p a b : Int32} (hlo : lo.2 ≤ 1200) (hn : σ.1 1307 = nI nx) (h1 : lo.1 ≤ nx) (h2 : nx ≤ lo.2) (he : σ.1 1308 = nI (lo.2)) : ∃ r σ', FX3_add s p a b σ = some (r, σ') ∧ Ad lo σ σ' ∧ (r = -1 ∨ ∃ q, r = nI q ∧ lo.1 ≤ q ∧ q < lo.2) ∧ (nx < lo.2 → r = nI nx ∧ NodeS nx s p a b (-1) 0 1000000 σ σ') := by
  rw [FX3_add, hn, he]
  by_cases hx : nx < lo.2
  · rw [if_pos (nI_lt hx (by omega)), pI (by omega) (by decide), pI (by omega) (by decide), pI (by omega) (by decide), pI (by omega) (by decide), pI (by omega) (by decide), pI (by omega) (by decide), pI (by omega) (by decide), ← nI_succ]
    refine ⟨_, _, rfl, ?_⟩
    generalize hσ : tA (tA (tA (tA (tA (tA (tA (tI σ 1307 (nI (nx + 1))) 15 (upd (σ.2.2.1 15) nx s)) 17 (upd (σ.2.2.1 17) nx p)) 19 (upd (σ.2.2.1 19) nx a)) 21 (upd (σ.2.2.1 21) nx b)) 23 (upd (σ.2.2.1 23) nx (-1))) 25 (upd (σ.2.2.1 25) nx 0)) 27 (upd (σ.2.2.1 27) nx 1000000) = σ'
    have rows : ∀ j q, σ'.2.2.1 j q = if q = nx then (if j = 15 then s else if j = 17 then p else if j = 19 then a else if j = 21 then b else if j = 23 then -1 else if j = 25 then 0 else if j = 27 then 1000000 else σ.2.2.1 j q) else σ.2.2.1 j q := by
      intro j q
      rw [← hσ]
      simp only [va_up, upd]
      by_cases hq : q = nx
      · subst hq
        by_cases e27 : j = 27
        · subst e27; simp [upd]
        by_cases e25 : j = 25
        · subst e25; simp [upd]
        by_cases e23 : j = 23
        · subst e23; simp [upd]
        by_cases e21 : j = 21
        · subst e21; simp [upd]
        by_cases e19 : j = 19
        · subst e19; simp [upd]
        by_cases e17 : j = 17
        · subst e17; simp [upd]
        by_cases e15 : j = 15
        · subst e15; simp [upd]
        simp [e27, e25, e23, e21, e19, e17, e15]
      · rw [if_neg hq]
        by_cases e27 : j = 27
        · subst e27; simp [upd, hq]
        by_cases e25 : j = 25
        · subst e25; simp [upd, hq]
        by_cases e23 : j = 23
        · subst e23; simp [upd, hq]
        by_cases e21 : j = 21
        · subst e21; simp [upd, hq]
        by_cases e19 : j = 19
        · subst e19; simp [upd, hq]
        by_cases e17 : j = 17
        · subst e17; simp [upd, hq]
        by_cases e15 : j = 15
        · subst e15; simp [upd, hq]
        simp [e27, e25, e23, e21, e19, e17, e15]
    have i1 : σ'.1 1307 = nI (nx + 1) := by
      rw [← hσ]
      show (tI σ 1307 (nI (nx + 1))).1 1307 = _
      exact tI_g
    refine ⟨⟨fun j hj => by
      rw [← hσ]
      show (tI σ 1307 (nI (nx + 1))).1 j = _
      exact tI_o hj, by rw [← hσ], fun j hj => ?_, fun j q hq => ?_, by rw [← hσ], nx + 1, i1, by omega, by omega⟩, Or.inr ⟨nx, rfl, h1, hx⟩, fun _ => ⟨rfl, i1, ?_, ?_, ?_, ?_, ?_, ?_, ?_, fun q hq j => ?_⟩⟩
    · obtain ⟨e15, e17, e19, e21, e23, e25, e27⟩ := hj
      funext q
      rw [rows]
      simp [e27, e25, e23, e21, e19, e17, e15]
    · rw [rows, if_neg (by omega)]
    · rw [rows]; simp
    · rw [rows]; simp
    · rw [rows]; simp
    · rw [rows]; simp
    · rw [rows]; simp
    · rw [rows]; simp
    · rw [rows]; simp
    · rw [rows, if_neg hq]
  · rw [if_neg (nI_nlt (by omega) (by omega))]
    exact ⟨_, _, rfl, ⟨fun _ _ => rfl, rfl, fun _ _ => rfl, fun _ _ _ => rfl, rfl, nx, hn, h1, h2⟩, Or.inl rfl, fun h => absurd h hx⟩
theorem putI_m1 {N : Nat} {f : Nat → Int32} {v : Int32} : putI N f (-1) v = f := by rw [putI, if_pos (by decide)]
theorem tA_id {σ : CS} {k : Nat} : tA σ k (σ.2.2.1 k) = σ := by
  show ((σ.1, σ.2.1, va_up σ.2.2.1 k (σ.2.2.1 k), σ.2.2.2) : CS) = σ
  have : va_up σ.2.2.1 k (σ.2.2.1 k) = σ.2.2.1 := by
    funext j; unfold va_up; by_cases h : j = k
    · rw [if_pos h, h]
    · rw [if_neg h]
  rw [this]
theorem cBound {r l h : Int32} (hlo : lo.2 ≤ 1200) (hr : r = -1 ∨ ∃ q, r = nI q ∧ lo.1 ≤ q ∧ q < lo.2) (hf : ∃ n, σ.1 1307 = nI n ∧ lo.1 ≤ n ∧ n ≤ lo.2) : ∃ σ', FX3_bound r l h σ = some ((), σ') ∧ Ad lo σ σ' ∧ ∀ σb s p a b t l0 h0, r = nI nx → NodeS nx s p a b t l0 h0 σb σ → nx < lo.2 → NodeS nx s p a b t l h σb σ' := by
  rw [FX3_bound]
  rcases hr with hr | ⟨q, hr, hq1, hq2⟩
  · subst hr
    rw [putI_m1, putI_m1, tA_id, tA_id]
    exact ⟨σ, rfl, ⟨fun _ _ => rfl, rfl, fun _ _ => rfl, fun _ _ _ => rfl, rfl, hf⟩, fun σb s p a b t l0 h0 e _ hn => absurd e.symm (nI_n1 (by omega))⟩
  · subst hr
    rw [pI (by omega) (by decide), pI (by omega) (by decide)]
    refine ⟨_, rfl, ?_⟩
    generalize hσ : tA (tA σ 25 (upd (σ.2.2.1 25) q l)) 27 (upd (σ.2.2.1 27) q h) = σ'
    have rows : ∀ j r, σ'.2.2.1 j r = if r = q then (if j = 25 then l else if j = 27 then h else σ.2.2.1 j r) else σ.2.2.1 j r := by
      intro j r
      rw [← hσ]
      simp only [va_up, upd]
      by_cases hq : r = q
      · subst hq
        by_cases e27 : j = 27
        · subst e27; simp [upd]
        by_cases e25 : j = 25
        · subst e25; simp [upd]
        simp [e27, e25]
      · rw [if_neg hq]
        by_cases e27 : j = 27
        · subst e27; simp [upd, hq]
        by_cases e25 : j = 25
        · subst e25; simp [upd, hq]
        simp [e27, e25]
    refine ⟨⟨fun j hj => by rw [← hσ], by rw [← hσ], fun j hj => ?_, fun j r hr => ?_, by rw [← hσ], by rw [← hσ]; exact hf⟩, fun σb s p a b t l0 h0 e hN hn => ?_⟩
    · obtain ⟨e15, e17, e19, e21, e23, e25, e27⟩ := hj
      funext r
      rw [rows]
      simp [e27, e25]
    · rw [rows, if_neg (by omega)]
    · rw [nI_eq (by omega) (by omega)] at e
      subst e
      obtain ⟨n1, n2, n3, n4, n5, n6, n7, n8, n9⟩ := hN
      refine ⟨by rw [← hσ]; exact n1, ?_, ?_, ?_, ?_, ?_, ?_, ?_, fun r hr j => ?_⟩
      · rw [rows]; simp [n2]
      · rw [rows]; simp [n3]
      · rw [rows]; simp [n4]
      · rw [rows]; simp [n5]
      · rw [rows]; simp [n6]
      · rw [rows]; simp
      · rw [rows]; simp
      · rw [rows, if_neg hr]; exact n9 r hr j
theorem cThird {r t : Int32} (hlo : lo.2 ≤ 1200) (hr : r = -1 ∨ ∃ q, r = nI q ∧ lo.1 ≤ q ∧ q < lo.2) (hf : ∃ n, σ.1 1307 = nI n ∧ lo.1 ≤ n ∧ n ≤ lo.2) : Ad lo σ (tA σ 23 (putI 1200 (σ.2.2.1 23) r t)) ∧ ∀ σb s p a b t0 l h, r = nI nx → NodeS nx s p a b t0 l h σb σ → nx < lo.2 → NodeS nx s p a b t l h σb (tA σ 23 (putI 1200 (σ.2.2.1 23) r t)) := by
  rcases hr with hr | ⟨q, hr, hq1, hq2⟩
  · subst hr
    rw [putI_m1, tA_id]
    exact ⟨⟨fun _ _ => rfl, rfl, fun _ _ => rfl, fun _ _ _ => rfl, rfl, hf⟩, fun σb s p a b t l0 h0 e _ hn => absurd e.symm (nI_n1 (by omega))⟩
  · subst hr
    rw [pI (by omega) (by decide)]
    generalize hσ : tA σ 23 (upd (σ.2.2.1 23) q t) = σ'
    have rows : ∀ j r, σ'.2.2.1 j r = if r = q then (if j = 23 then t else σ.2.2.1 j r) else σ.2.2.1 j r := by
      intro j r
      rw [← hσ, tA_one]
      by_cases hq : r = q
      · subst hq
        by_cases e : j = 23
        · simp [e]
        · simp [e]
      · rw [if_neg hq, if_neg (fun e => hq e.2)]
    refine ⟨⟨fun j hj => by rw [← hσ], by rw [← hσ], fun j hj => ?_, fun j r hr => ?_, by rw [← hσ], by rw [← hσ]; exact hf⟩, fun σb s p a b t0 l h e hN hn => ?_⟩
    · obtain ⟨e15, e17, e19, e21, e23, e25, e27⟩ := hj
      funext r
      rw [rows]
      simp [e23]
    · rw [rows, if_neg (by omega)]
    · rw [nI_eq (by omega) (by omega)] at e
      subst e
      obtain ⟨n1, n2, n3, n4, n5, n6, n7, n8, n9⟩ := hN
      refine ⟨by rw [← hσ]; exact n1, ?_, ?_, ?_, ?_, ?_, ?_, ?_, fun r hr j => ?_⟩
      · rw [rows]; simp [n2]
      · rw [rows]; simp [n3]
      · rw [rows]; simp [n4]
      · rw [rows]; simp [n5]
      · rw [rows]; simp
      · rw [rows]; simp [n7]
      · rw [rows]; simp [n8]
      · rw [rows, if_neg hr]; exact n9 r hr j
/-- older parts are as they were -/
def Ext (V0 : Nat → Prop) (lo : Nat × Nat) (nx : Nat) (σ σ' : CS) : Prop := ∀ q, Vx V0 lo.1 nx q → ∀ j, σ'.2.2.1 j q = σ.2.2.1 j q
theorem Ext.refl : Ext V0 lo nx σ σ := fun _ _ _ => rfl
theorem Vx.le {b n m q : Nat} (h : Vx V0 b n q) (hm : n ≤ m) : Vx V0 b m q := h.elim Or.inl (fun e => Or.inr ⟨e.1, by omega⟩)
theorem Ext.trans {n2 : Nat} (h : Ext V0 lo nx σ σ1) (hn : nx ≤ n2) (g : Ext V0 lo n2 σ1 σ2) : Ext V0 lo nx σ σ2 := fun q hq j => (g q (hq.le hn) j).trans (h q hq j)
theorem Ext.ch (h : Ext V0 lo nx σ σ1) (g : Ch σ1 σ2) : Ext V0 lo nx σ σ2 := fun q hq j => by rw [g.2.2]; exact h q hq j
theorem ntC_row {q : Nat} (h : ∀ j, σ1.2.2.1 j q = σ.2.2.1 j q) : ntC σ1 q = ntC σ q := by unfold ntC; simp only [h]
theorem Ext.V {q : Nat} (hT : okT (Vx V0 lo.1 nx) (ntC σ)) (h : Ext V0 lo nx σ σ1) (hq : Vx V0 lo.1 nx q) : dnV (ntC σ1) q = dnV (ntC σ) q := dnV_table hT (fun n hn => ntC_row (h n hn)) hq
theorem Ext.R {q : Nat} (hT : okT (Vx V0 lo.1 nx) (ntC σ)) (h : Ext V0 lo nx σ σ1) (hq : Vx V0 lo.1 nx q) : dnR (ntC σ1) (σ1.2.2.1 17) q = dnR (ntC σ) (σ.2.2.1 17) q := dnR_table hT (fun n hn => ⟨ntC_row (h n hn), h n hn 17⟩) hq
/-- a part's number, and what it means -/
def NI (V0 : Nat → Prop) (lo : Nat × Nat) (nx : Nat) (f : Bool) (σ : CS) (a : Int32) (D : Den) : Prop := ∃ q, a = nI q ∧ Vx V0 lo.1 nx q ∧ dnV (ntC σ) q = D.1 ∧ (f = true → dnR (ntC σ) (σ.2.2.1 17) q = D.2)
theorem NI.ext {f : Bool} {a : Int32} {D : Den} {n2 : Nat} (h : NI V0 lo nx f σ a D) (hT : okT (Vx V0 lo.1 nx) (ntC σ)) (g : Ext V0 lo nx σ σ1) (hn : nx ≤ n2) : NI V0 lo n2 f σ1 a D := by
  obtain ⟨q, e, hq, h1, h2⟩ := h
  exact ⟨q, e, hq.le hn, by rw [g.V hT hq]; exact h1, fun hf => by rw [g.R hT hq]; exact h2 hf⟩
theorem kK_lt {s : Int32} (hV : ∀ q, V0 q → q < lo.1) (h : lo.1 ≤ nx) {q : Nat} (hq : Vx V0 lo.1 nx q) : q < nx := hq.elim (fun e => by have := hV q e; omega) (fun e => e.2)
/-- a new part means what its operator makes of its operands -/
theorem mkN {s p a b t l h : Int32} {D1 D2 D3 : Den} {f f1 f2 : Bool} {R : Rz} (hV : ∀ q, V0 q → q < lo.1) (hI : CI V0 lo nx σ) (hlo : lo.2 ≤ 1200) (hx : nx < lo.2) (hN : NodeS nx s p a b t l h σ σ1) (hk : isK (kK s) = true) (hbd : (h = 1000000 ∧ l = 0) ∨ ∃ x y : Nat, l = nI x ∧ h = nI y ∧ x ≤ 1000 ∧ y ≤ 1000) (i1 : us1 (kK s) = true → NI V0 lo nx f1 σ a D1) (i2 : us2 (kK s) = true → NI V0 lo nx f2 σ b D2) (i3 : us3 (kK s) = true → NI V0 lo nx false σ (kT s t) D3) (hs : kK s = 21 → ∃ m, m < 8 ∧ a = nI m) (hR : f = true → ∀ A ra rb, (us1 (kK s) = true → A = D1.1 ∧ (f1 = true → ra = D1.2)) → (us2 (kK s) = true → f2 = true → rb = D2.2) → oR (kK s) l (hiC h) p A ra rb = R) : CI V0 lo (nx + 1) σ1 ∧ Ext V0 lo nx σ σ1 ∧ NI V0 lo (nx + 1) f σ1 (nI nx) (oV (kK s) a l (hiC h) (kT s t) D1.1 D2.1 D3.1, R) := by
  obtain ⟨c1, c2, c3, c4⟩ := hI
  obtain ⟨n1, n2, n3, n4, n5, n6, n7, n8, n9⟩ := hN
  have lt : ∀ {q}, Vx V0 lo.1 nx q → q < nx := fun {q} hq => hq.elim (fun e => by have := hV q e; omega) (fun e => e.2)
  have hE : Ext V0 lo nx σ σ1 := fun q hq j => n9 q (by have := lt hq; omega) j
  have hrow : ntC σ1 nx = (kK s, a, b, kT s t, l, hiC h) := by unfold ntC; rw [n2, n4, n5, n6, n7, n8]
  have hself : Vx V0 lo.1 (nx + 1) nx := Or.inr ⟨c2, by omega⟩
  have hT : okT (Vx V0 lo.1 (nx + 1)) (ntC σ1) := by
    intro n hn
    by_cases e : n = nx
    · subst e
      refine ⟨by omega, ?_⟩
      rw [hrow]
      refine ⟨hk, fun u => ?_, fun u => ?_, fun u => ?_, hs⟩
      · obtain ⟨q, e, hq, -⟩ := i1 u; exact ⟨q, hq.le (by omega), lt hq, e⟩
      · obtain ⟨q, e, hq, -⟩ := i2 u; exact ⟨q, hq.le (by omega), lt hq, e⟩
      · obtain ⟨q, e, hq, -⟩ := i3 u; exact ⟨q, hq.le (by omega), lt hq, e⟩
    · have hn2 : Vx V0 lo.1 nx n := hn.elim Or.inl (fun g => Or.inr ⟨g.1, by omega⟩)
      refine ⟨(c3 n hn2).1, ?_⟩
      rw [ntC_row (hE n hn2)]
      exact (c3 n hn2).2.mono (fun m hm => hm.le (by omega))
  refine ⟨⟨n1, by omega, hT, fun q hq => ?_⟩, hE, nx, rfl, hself, ?_, fun hf => ?_⟩
  · by_cases e : q = nx
    · subst e
      unfold bdC
      rw [n7, n8]; exact hbd
    · have hq2 : Vx V0 lo.1 nx q := hq.elim Or.inl (fun g => Or.inr ⟨g.1, by omega⟩)
      have := c4 q hq2
      unfold bdC at this ⊢
      rw [hE q hq2, hE q hq2]; exact this
  · rw [dnV_eq hT hself, hrow]
    refine oV_congr hk (fun _ => rfl) (fun _ => ⟨rfl, rfl⟩) (fun _ => rfl) (fun u => ?_) (fun u => ?_) (fun u => ?_)
    · obtain ⟨q, e, hq, h1, -⟩ := i1 u
      show dnV (ntC σ1) a.toNatClampNeg = D1.1
      rw [e, nI_clamp (by have := lt hq; omega), hE.V c3 hq, h1]
    · obtain ⟨q, e, hq, h1, -⟩ := i2 u
      show dnV (ntC σ1) b.toNatClampNeg = D2.1
      rw [e, nI_clamp (by have := lt hq; omega), hE.V c3 hq, h1]
    · obtain ⟨q, e, hq, h1, -⟩ := i3 u
      show dnV (ntC σ1) (kT s t).toNatClampNeg = D3.1
      rw [e, nI_clamp (by have := lt hq; omega), hE.V c3 hq, h1]
  · rw [dnR_eq hT hself, hrow]
    show oR (kK s) l (hiC h) (σ1.2.2.1 17 nx) (dnV (ntC σ1) a.toNatClampNeg) (dnR (ntC σ1) (σ1.2.2.1 17) a.toNatClampNeg) (dnR (ntC σ1) (σ1.2.2.1 17) b.toNatClampNeg) = R
    rw [n3]
    refine hR hf _ _ _ (fun u => ?_) (fun u hf2 => ?_)
    · obtain ⟨q, e, hq, h1, h2⟩ := i1 u
      rw [e, nI_clamp (by have := lt hq; omega), hE.V c3 hq, hE.R c3 hq]
      exact ⟨h1, h2⟩
    · obtain ⟨q, e, hq, h1, h2⟩ := i2 u
      rw [e, nI_clamp (by have := lt hq; omega), hE.R c3 hq]
      exact h2 hf2
end CP
