-- the relation between the two states
theorem opV_8 {kd a lo hi th : Int32} {h g : Hs} {A B C : Nat → Int64} {i : Nat} (h1 : h.1 = g.1) (h2 : kd = 21 → h.2 a.toNatClampNeg i = g.2 a.toNatClampNeg i) : opV kd a lo hi th h A B C i = opV kd a lo hi th g A B C i := by
  unfold opV
  rw [h1]
  by_cases e : kd = 21
  · subst e; simp [h2 rfl]
  · simp only [if_neg e]
/-- histories that agree where parts look -/
def h8 (h g : Hs) (i : Nat) : Prop := ∀ j, j ≤ i → h.1 j = g.1 j ∧ ∀ k, k < 8 → h.2 k j = g.2 k j
theorem va8a {T : NT} {h g : Hs} {V : Nat → Prop} (hT : okT V T) (h1 : h.1 = g.1) (h2 : ∀ k j, k < 8 → h.2 k j = g.2 k j) : ∀ n, V n → vaN T h n = vaN T g n := by
  intro n
  induction n using Nat.strongRecOn with
  | _ n ih =>
    intro hn
    obtain ⟨hN, h0, k1, k2, k3, k4⟩ := hT n hn
    rw [vaN_eq hT hn, vaN_eq hT hn]
    funext i
    rw [opV_8 h1 (fun e => by obtain ⟨m, hm, em⟩ := k4 e; rw [em, nI_clamp (by omega)]; exact h2 m i hm)]
    refine opV_congr h0 hC.refl (fun u j _ => ?_) (fun u j _ => ?_) (fun u j _ => ?_)
    · obtain ⟨m, hv, hm, e⟩ := k1 u
      rw [e, nI_clamp (by omega), ih m hm hv]
    · obtain ⟨m, hv, hm, e⟩ := k2 u
      rw [e, nI_clamp (by omega), ih m hm hv]
    · obtain ⟨m, hv, hm, e⟩ := k3 u
      rw [e, nI_clamp (by omega), ih m hm hv]
theorem re8a {T : NT} {P : Nat → Int32} {h g : Hs} {V : Nat → Prop} (hT : okT V T) (h1 : h.1 = g.1) (h2 : ∀ k j, k < 8 → h.2 k j = g.2 k j) : ∀ n, V n → reN T P h n = reN T P g n := by
  intro n
  induction n using Nat.strongRecOn with
  | _ n ih =>
    intro hn
    obtain ⟨hN, h0, k1, k2, k3, k4⟩ := hT n hn
    rw [reN_eq hT hn, reN_eq hT hn]
    funext i
    have e9 : ∀ (kd lo hi pl : Int32) (A : Nat → Int64) (ra rb : Nat → Int32 × Int32), opR kd lo hi pl h A ra rb i = opR kd lo hi pl g A ra rb i := fun kd lo hi pl A ra rb => by unfold opR; rw [h1]
    rw [e9]
    refine opR_congr hC.refl (fun u j _ => ⟨?_, ?_⟩) (fun u j _ => ?_)
    · obtain ⟨m, hv, hm, e⟩ := k1 u
      rw [e, nI_clamp (by omega), va8a hT h1 h2 m hv]
    · obtain ⟨m, hv, hm, e⟩ := k1 u
      rw [e, nI_clamp (by omega), ih m hm hv]
    · obtain ⟨m, hv, hm, e⟩ := k2 u
      rw [e, nI_clamp (by omega), ih m hm hv]
def mix8 (h g : Hs) : Hs := (h.1, fun k j => if k < 8 then h.2 k j else g.2 k j)
theorem mix8_C {h g : Hs} {i : Nat} (hh : h8 h g i) : hC (mix8 h g) g i := fun j hj => ⟨(hh j hj).1, fun k => by
  show (if k < 8 then h.2 k j else g.2 k j) = g.2 k j
  by_cases z : k < 8
  · rw [if_pos z]; exact (hh j hj).2 k z
  · rw [if_neg z]⟩
theorem mix8_8 {h g : Hs} {k j : Nat} (z : k < 8) : h.2 k j = (mix8 h g).2 k j := by
  show _ = (if k < 8 then h.2 k j else g.2 k j)
  rw [if_pos z]
theorem va8 {T : NT} {h g : Hs} {V : Nat → Prop} {n i : Nat} (hT : okT V T) (hn : V n) (hh : h8 h g i) : vaN T h n i = vaN T g n i := by
  rw [va8a hT (show h.1 = (mix8 h g).1 from rfl) (fun k j z => mix8_8 z) n hn]
  exact vaN_same hT (fun _ _ => rfl) n i hn (mix8_C hh)
theorem re8 {T : NT} {P : Nat → Int32} {h g : Hs} {V : Nat → Prop} {n i : Nat} (hT : okT V T) (hn : V n) (hh : h8 h g i) : reN T P h n i = reN T P g n i := by
  rw [re8a hT (show h.1 = (mix8 h g).1 from rfl) (fun k j z => mix8_8 z) n hn]
  exact reN_same hT (fun _ _ => ⟨rfl, rfl⟩) n i hn (mix8_C hh)
section RL
variable {σ σ1 : MS} {τ τ1 : CS} {kw : Nat → Int64} {len nm nc st ks km c : Nat} {E : EnvN}
/-- times that rise by at most 1000 a step -/
def TmOK (t : Nat → Int32) (n : Nat) : Prop := ∃ f : Nat → Nat, (∀ j, j < n → t j = nI (f j) ∧ f j ≤ 1000 * (j + 1)) ∧ ∀ j k, j ≤ k → k < n → f j ≤ f k
theorem TmOK.vt {t : Nat → Int32} {n i : Nat} (h : TmOK t n) (hn : n ≤ 120) (hi : i < n) : VT t i := by
  obtain ⟨f, h1, h2⟩ := h
  exact ⟨f, fun j hj => ⟨(h1 j (by omega)).1, by have := (h1 j (by omega)).2; omega⟩, fun j k hjk hk => h2 j k hjk (by omega)⟩
theorem TmOK.le {t : Nat → Int32} {n m : Nat} (h : TmOK t n) (hm : m ≤ n) : TmOK t m := by
  obtain ⟨f, h1, h2⟩ := h
  exact ⟨f, fun j hj => h1 j (by omega), fun j k hjk hk => h2 j k hjk (by omega)⟩
theorem TmOK.zero {t : Nat → Int32} : TmOK t 0 := ⟨fun _ => 0, fun j hj => absurd hj (Nat.not_lt_zero _), fun j k _ hk => absurd hk (Nat.not_lt_zero _)⟩
/-- the tape and the place of the last error -/
def RTape (kw : Nat → Int64) (len : Nat) (σ : MS) (τ : CS) : Prop := τ.2.2.2.1 6 = kw ∧ σ.1 2 = nI len ∧ τ.1 101 = nI len ∧ okBt (τ.2.2.1 3) len ∧ σ.2.1 1 = τ.2.2.1 3 ∧ σ.1 3 = τ.1 9
def LvE (E : EnvN) : Prop := ∀ i, ¬ E.lv i < 0
/-- the program -/
def RProg (E : EnvN) (nm nc : Nat) (σ : MS) (τ : CS) : Prop := EnvOK E ∧ LvE E ∧ RefE E nm σ ∧ ClsE E nc τ ∧ (σ.1 27 = nI nm ∧ nm ≤ 400 ∧ okT (fun q => q < nm) (ntM σ) ∧ ∀ q, q < nm → okB (ntM σ q)) ∧ (τ.1 2809 = nI nc ∧ nc ≤ 400 ∧ okT (fun q => q < nc) (ntC τ) ∧ ∀ q, q < nc → bdC τ q) ∧ τ.1 4403 = nI (E.ct 0) ∧ σ.1 18 = τ.1 2808
/-- the steps, and what the signals are set to -/
def RHist (c st : Nat) (σ : MS) (τ : CS) : Prop := st ≤ 120 ∧ σ.1 29 = nI st ∧ τ.1 4402 = nI st ∧ TmOK (τ.2.2.1 46) st ∧ (∀ i, i < st → σ.2.1 30 i = τ.2.2.1 46 i) ∧ (∀ k i, k < 8 → i < 120 → σ.2.2 31 (8 * i + k) = τ.2.2.2.2 0 k i) ∧ ∀ k, k < c → σ.2.2 32 k = τ.2.2.2.1 58 k
/-- what is kept -/
def RKept (ks km : Nat) (σ : MS) (τ : CS) : Prop := ks ≤ 120 ∧ km ≤ 8 ∧ σ.1 33 = nI ks ∧ τ.1 4902 = nI ks ∧ σ.1 34 = nI km ∧ τ.1 4903 = nI km ∧ TmOK (τ.2.2.1 51) ks ∧ (∀ i, i < ks → σ.2.1 35 i = τ.2.2.1 51 i) ∧ ∀ k i, k < km → i < ks → σ.2.2 36 (8 * i + k) = τ.2.2.2.2 1 k i
def TabM (nm st : Nat) (σ : MS) : Prop := ∀ q, q < nm → ∀ i, i < st → tabM σ q i = vaN (ntM σ) (hsM σ) q i
def TabC (V : Nat → Prop) (st : Nat) (τ : CS) : Prop := ∀ q, V q → ∀ i, i < st → cellC τ q i = vaN (ntC τ) (hsC τ) q i
def AskNo (σ : MS) (τ : CS) : Prop := σ.1 28 = -1 ∧ τ.1 10 = 0 ∧ (τ.1 12 = nI 400 ∨ τ.1 12 = nI 800)
/-- a question of the class, and one of the reference -/
def AskC (nc st p0 ne qc : Nat) (τ : CS) : Prop := (p0 = 400 ∨ p0 = 800) ∧ p0 ≤ ne ∧ ne ≤ p0 + 400 ∧ τ.1 12 = nI p0 ∧ τ.1 13 = nI ne ∧ τ.1 11 = nI qc ∧ Vx (fun q => q < nc) p0 ne qc ∧ okT (Vx (fun q => q < nc) p0 ne) (ntC τ) ∧ (∀ q, Vx (fun q => q < nc) p0 ne q → bdC τ q) ∧ TabC (Vx (fun q => q < nc) p0 ne) st τ
def AskM (nm na qm : Nat) (σ : MS) : Prop := nm ≤ na ∧ na ≤ nm + 400 ∧ σ.1 28 = nI qm ∧ σ.1 40 = nI na ∧ qm < na ∧ okT (fun q => q < na) (ntM σ) ∧ ∀ q, q < na → okB (ntM σ q)
def AskYes (nm nc st : Nat) (σ : MS) (τ : CS) : Prop := τ.1 10 = 1 ∧ ∃ p0 ne qc na qm, AskC nc st p0 ne qc τ ∧ AskM nm na qm σ ∧ dnV (ntM σ) qm = dnV (ntC τ) qc
def RelW (kw : Nat → Int64) (len : Nat) (E : EnvN) (nm nc st ks km : Nat) (σ : MS) (τ : CS) : Prop := RTape kw len σ τ ∧ RProg E nm nc σ τ ∧ RHist (E.ct 0) st σ τ ∧ RKept ks km σ τ ∧ TabM nm st σ ∧ TabC (fun q => q < nc) st τ ∧ (AskNo σ τ ∨ AskYes nm nc st σ τ)
def Rel (kw : Nat → Int64) (σ : MS) (τ : CS) : Prop := ∃ len E nm nc st ks km, RelW kw len E nm nc st ks km σ τ
theorem RHist.h8 (h : RHist c st σ τ) {i : Nat} (hi : i < st) : h8 (hsM σ) (hsC τ) i := fun j hj => ⟨h.2.2.2.2.1 j (by omega), fun k hk => h.2.2.2.2.2.1 k j hk (by have := h.1; omega)⟩
/-- a let, a value or a watch of both -/
theorem itemV (hP : RProg E nm nc σ τ) (hH : RHist c st σ τ) (hM : TabM nm st σ) (hC : TabC (fun q => q < nc) st τ) {s n : Nat} (hs : s < 4) (h0 : s ≠ 0) (hn : n < E.ct s) : ∃ qm qc, qm < nm ∧ qc < nc ∧ σ.2.1 25 (12 * s + n) = nI qm ∧ τ.2.2.1 38 (12 * s + n) = nI qc ∧ (∀ i, i < st → tabM σ qm i = (E.dn s n).1 (hsC τ) i ∧ cellC τ qc i = (E.dn s n).1 (hsC τ) i) ∧ (s = 1 ∨ s = 3 → BlD (E.dn s n) ∧ dnR (ntM σ) (σ.2.1 15) qm = (E.dn s n).2 ∧ dnR (ntC τ) (τ.2.2.1 17) qc = (E.dn s n).2) := by
  obtain ⟨p1, p2, p3, p4, ⟨p5, p6, p7, p8⟩, ⟨p9, q1, q2, q3⟩, q4, q5⟩ := hP
  obtain ⟨qm, a1, a2, a3, a4⟩ := p3.2.2.2.1 s n hs h0 hn
  obtain ⟨qc, b1, b2', b3, b4⟩ := p4.2.2.2.1 s n hs h0 hn
  refine ⟨qm, qc, a1, b1, a2, b2', fun i hi => ⟨?_, ?_⟩, fun z => ⟨(a4 z).2, (a4 z).1, b4 z⟩⟩
  · rw [hM qm a1 i hi, va8 p7 a1 (hH.h8 hi), ← a3]; rfl
  · rw [hC qc b1 i hi, ← b3]; rfl
theorem EnvOK.c12 (h : EnvOK E) {s : Nat} (hs : s < 4) : E.ct s ≤ 12 := by
  have := h.2.1 s hs
  unfold capE at this; split at this <;> omega
theorem EnvOK.c8 (h : EnvOK E) : E.ct 0 ≤ 8 := h.2.1 0 (by decide)
theorem inCase (x : Int32) {c : Nat} (hc : c < 2 ^ 31) : (∃ n, n < c ∧ x = nI n ∧ FX11_isIn x 0 (nI c - 1) = some 1) ∨ (FX11_isIn x 0 (nI c - 1) = some 0 ∧ (x < 0 ∨ (¬ x < 0 ∧ nI c ≤ x))) := by
  rw [rIsIn]
  by_cases h : x < 0
  · right
    refine ⟨?_, Or.inl h⟩
    rw [decide_eq_false (fun z => z h)]; rfl
  · obtain ⟨j, hj, rfl⟩ := nI_of h
    rw [decide_eq_true h]
    by_cases z : j < c
    · left
      refine ⟨j, z, rfl, ?_⟩
      obtain ⟨d, rfl⟩ : ∃ d, c = d + 1 := ⟨c - 1, by omega⟩
      have e : nI (d + 1) - 1 = nI d := nI_sub (show 1 ≤ d + 1 by omega)
      rw [e, decide_eq_true (nI_nlt (show j ≤ d by omega) (by omega))]; rfl
    · right
      refine ⟨?_, Or.inr ⟨h, nI_le (by omega) hj⟩⟩
      have : nI c - 1 < nI j := by
        by_cases c0 : c = 0
        · subst c0
          have : nI 0 - 1 = (-1 : Int32) := by decide
          rw [this]
          rw [Int32.lt_iff_toInt_lt]
          have h2 : ¬ (nI j).toInt < 0 := fun q => h (by rw [Int32.lt_iff_toInt_lt]; exact q)
          have : (-1 : Int32).toInt = -1 := by decide
          omega
        · obtain ⟨d, rfl⟩ : ∃ d, c = d + 1 := ⟨c - 1, by omega⟩
          have e : nI (d + 1) - 1 = nI d := nI_sub (show 1 ≤ d + 1 by omega)
          rw [e]
          exact nI_lt (by omega) hj
      rw [decide_eq_false (fun q => q this)]; rfl
theorem stepCase (hm : σ.1 29 = nI st) (hc : τ.1 4402 = nI st) (h : st ≤ 120) (x : Int32) : (∃ n, n < st ∧ x = nI n ∧ FX11_isStep x σ = some (1, σ) ∧ FX10_isStep x τ = some (1, τ)) ∨ (FX11_isStep x σ = some (0, σ) ∧ FX10_isStep x τ = some (0, τ)) := by
  rw [FX11_isStep, FX10_isStep, hm, hc]
  rcases inCase x (show st < 2 ^ 31 by omega) with ⟨n, hn, rfl, e⟩ | ⟨e, g⟩
  · left
    refine ⟨n, hn, rfl, ?_, ?_⟩
    · rw [e]; rfl
    · rw [if_neg (nI_pos (by omega)), if_neg (by rw [nI_leI (by omega) (by omega)]; omega)]
  · right
    refine ⟨?_, ?_⟩
    · rw [e]; rfl
    · rcases g with g | ⟨g, g2⟩
      · rw [if_pos g]
      · rw [if_neg g, if_pos g2]
theorem itemCase {s : Nat} (hs : s < 4) (hm : σ.2.1 23 s = nI c) (hc : τ.2.2.1 36 s = nI c) (h : c ≤ 12) (x : Int32) : (∃ n, n < c ∧ x = nI n ∧ FX11_isIn x 0 (σ.2.1 23 s - 1) = some 1 ∧ FX10_isItem (nI s) x τ = some (1, τ)) ∨ (FX11_isIn x 0 (σ.2.1 23 s - 1) = some 0 ∧ FX10_isItem (nI s) x τ = some (0, τ)) := by
  rw [FX10_isItem, hm, gI (show s < 4 from hs) (by decide), hc]
  rcases inCase x (show c < 2 ^ 31 by omega) with ⟨n, hn, rfl, e⟩ | ⟨e, g⟩
  · left
    refine ⟨n, hn, rfl, e, ?_⟩
    rw [if_neg (nI_pos (by omega)), if_neg (by rw [nI_leI (by omega) (by omega)]; omega)]
  · right
    refine ⟨e, ?_⟩
    rcases g with g | ⟨g, g2⟩
    · rw [if_pos g]
    · rw [if_neg g, if_pos g2]
theorem watchCase (hm : σ.2.1 23 3 = nI c) (hc : τ.2.2.1 36 3 = nI c) (h : c ≤ 12) (x : Int32) : (∃ n, n < c ∧ x = nI n ∧ FX11_isWatch x σ = some (1, σ) ∧ FX10_isItem 3 x τ = some (1, τ)) ∨ (FX11_isWatch x σ = some (0, σ) ∧ FX10_isItem 3 x τ = some (0, τ)) := by
  rw [FX11_isWatch, if_neg (by decide)]
  rcases itemCase (s := 3) (σ := σ) (by decide) hm hc h x with ⟨n, hn, rfl, e, e2⟩ | ⟨e, e2⟩
  · left
    refine ⟨n, hn, rfl, ?_, e2⟩
    show (FX11_isIn (nI n) 0 (σ.2.1 23 3 - 1)).bind _ = _
    rw [e]; rfl
  · right
    refine ⟨?_, e2⟩
    show (FX11_isIn x 0 (σ.2.1 23 3 - 1)).bind _ = _
    rw [e]; rfl
/-- what a let, a value or a watch is at a step, in both -/
theorem rAtV (hP : RProg E nm nc σ τ) (hH : RHist c st σ τ) (hM : TabM nm st σ) (hC : TabC (fun q => q < nc) st τ) {s n i : Nat} (hs : s < 4) (h0 : s ≠ 0) (hn : n < E.ct s) (hi : i < st) : FX11_at (σ.2.1 25 (12 * s + n)) (nI i) σ = some ((E.dn s n).1 (hsC τ) i, σ) := by
  obtain ⟨qm, qc, a1, a2, a3, a4, a5, a6⟩ := itemV hP hH hM hC hs h0 hn
  have h400 : nm ≤ 400 := hP.2.2.2.2.1.2.1
  have h120 := hH.1
  rw [a3, rAt (by omega) (by omega), (a5 i hi).1]
theorem rHoV (hP : RProg E nm nc σ τ) (hH : RHist c st σ τ) (hM : TabM nm st σ) (hC : TabC (fun q => q < nc) st τ) {s n i : Nat} (hs : s < 4) (h0 : s ≠ 0) (hn : n < E.ct s) (hi : i < st) : FX11_holds (σ.2.1 25 (12 * s + n)) (nI i) σ = some (bI (nzV ((E.dn s n).1 (hsC τ) i)), σ) := by
  obtain ⟨qm, qc, a1, a2, a3, a4, a5, a6⟩ := itemV hP hH hM hC hs h0 hn
  have h400 : nm ≤ 400 := hP.2.2.2.2.1.2.1
  have h120 := hH.1
  rw [a3, rHolds (by omega) (by omega), (a5 i hi).1]
theorem rWaV (hP : RProg E nm nc σ τ) (hH : RHist c st σ τ) (hM : TabM nm st σ) (hC : TabC (fun q => q < nc) st τ) {n i : Nat} (hn : n < E.ct 3) (hi : i < st) : FX11_watches (nI n) (nI i) σ = some (bI (nzV ((E.dn 3 n).1 (hsC τ) i)), σ) := by
  have h12 : E.ct 3 ≤ 12 := hP.1.c12 (by decide)
  have e : (36 : Int32) + nI n = nI (12 * 3 + n) := nI_add 36 n
  rw [FX11_watches, e, if_neg (nI_in (show 12 * 3 + n < 48 by omega) (by decide)), nI_clamp (by omega), rHoV hP hH hM hC (by decide) (by decide) hn hi, b2r, if_neg bI_nn]
theorem cReV (hP : RProg E nm nc σ τ) (hH : RHist c st σ τ) (hM : TabM nm st σ) (hC : TabC (fun q => q < nc) st τ) {s n i : Nat} (hs : s < 4) (h0 : s ≠ 0) (hn : n < E.ct s) (hi : i < st) : FX10_reckoned (nI s) (nI n) (nI i) τ = some ((E.dn s n).1 (hsC τ) i, τ) := by
  obtain ⟨qm, qc, a1, a2, a3, a4, a5, a6⟩ := itemV hP hH hM hC hs h0 hn
  have h400 : nc ≤ 400 := hP.2.2.2.2.2.1.2.1
  have h12 := hP.1.c12 hs
  have h120 := hH.1
  rw [FX10_reckoned, FX5_rootOf, show (12 : Int32) = nI 12 from rfl, show nI s * nI 12 + nI n = nI (12 * s + n) from nI_mul12 hs, gI (show 12 * s + n < 48 by omega) (by decide), b2r, a4, gTc (by omega) (by omega), (a5 i hi).2]
end RL
