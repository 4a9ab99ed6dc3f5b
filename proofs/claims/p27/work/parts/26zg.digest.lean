-- the checksum
def fdg (g : Nat → Int64) : Nat → Int64 → Int64
  | 0, d => d
  | n+1, d => fdg g n d * 31 + g n
theorem fdg_congr {g h : Nat → Int64} {d : Int64} : ∀ n, (∀ j, j < n → g j = h j) → fdg g n d = fdg h n d
  | 0, _ => rfl
  | n+1, e => by rw [fdg, fdg, e n (by omega), fdg_congr n (fun j hj => e j (by omega))]
theorem chF {P : Nat → Int32 → Prop} {m : Nat} (h : ∀ n, n < m → ∃ v, P n v) : ∃ cv : Nat → Int32, ∀ n, n < m → P n (cv n) := ⟨fun n => if z : n < m then (h n z).choose else 0, fun n z => by simp only [dif_pos z]; exact (h n z).choose_spec⟩
section RD
variable {σ σ1 σ2 : MS} {τ τ1 τ2 : CS} {kw : Nat → Int64} {len nm nc st ks km c m L i : Nat} {E : EnvN} {g : Nat → Int64} {a : Int64}
def stpD (E : EnvN) (τ : CS) (i : Nat) (d : Int64) : Int64 := fdg (fun n => (E.dn 3 n).1 (hsC τ) i) (E.ct 3) (fdg (fun n => (E.dn 1 n).1 (hsC τ) i) (E.ct 1) (fdg (fun n => (E.dn 2 n).1 (hsC τ) i) (E.ct 2) (fdg (fun k => τ.2.2.2.2 0 k i) (E.ct 0) (d * 31 + (τ.2.2.1 46 i).toInt64))))
def sfd (E : EnvN) (τ : CS) : Nat → Int64 → Int64
  | 0, d => d
  | n+1, d => stpD E τ n (sfd E τ n d)
def wfd (E : EnvN) (τ : CS) (st : Nat) : Nat → Int64 → Int64
  | 0, d => d
  | n+1, d => fdg (fun x => (tWh (E.lv n) (hoW E τ n) st (nI x)).toInt64) 5 (wfd E τ st n d)
theorem cDSort {s : Nat} (hh : FX10_howMany (nI s) τ = some (nI c, τ)) (hc : c ≤ 12) (hA : ∀ n, n < c → FX10_reckoned (nI s) (nI n) (nI i) τ = some (g n, τ)) : ∀ (d k f : Nat), k + d = c → d < f → FX10_digestSort_6 L f (nI s) (nI i) (fdg g k a) (nI k) τ = some (fdg g c a, τ)
  | 0, k, f, hk, hf => by
    obtain ⟨f, rfl⟩ : ∃ z, f = z + 1 := ⟨f - 1, by omega⟩
    have : k = c := by omega
    subst this
    rw [FX10_digestSort_6, hh, b2r, if_pos (nI_le (Nat.le_refl _) (by omega))]
  | d+1, k, f, hk, hf => by
    obtain ⟨f, rfl⟩ : ∃ z, f = z + 1 := ⟨f - 1, by omega⟩
    rw [FX10_digestSort_6, hh, b2r, if_neg (by rw [nI_leI (by omega) (by omega)]; omega), hA k (by omega), b2r, ← nI_succ]
    exact cDSort hh hc hA d (k + 1) f (by omega) (by omega)
theorem cDStep (hP : RProg E nm nc σ τ) (hH : RHist c st σ τ) (hM : TabM nm st σ) (hC : TabC (fun q => q < nc) st τ) (hi : i < st) {d0 : Int64} : FX10_digestStep LF d0 (nI i) τ = some (stpD E τ i d0, τ) := by
  have h120 := hH.1
  have c8 := hP.1.c8
  have hw : ∀ s, s < 4 → FX10_howMany (nI s) τ = some (nI (E.ct s), τ) := fun s hs => by
    rw [FX10_howMany, if_neg (by rw [show (4 : Int32) = nI 4 from rfl, nI_eq (by omega) (by omega)]; omega), if_neg (by rw [show (5 : Int32) = nI 5 from rfl, nI_eq (by omega) (by omega)]; omega), if_neg (by rw [show (6 : Int32) = nI 6 from rfl, nI_eq (by omega) (by omega)]; omega), gI hs (by decide), hP.2.2.2.1.2.2.1 s hs]
  have so : ∀ (s : Nat) (a : Int64), s < 4 → s ≠ 0 → FX10_digestSort LF a (nI s) (nI i) τ = some (fdg (fun n => (E.dn s n).1 (hsC τ) i) (E.ct s) a, τ) := fun s a hs h0 => by
    have h12 := hP.1.c12 hs
    exact cDSort (L := LF) (g := fun n => (E.dn s n).1 (hsC τ) i) (hw s hs) h12 (fun n hn => cReV hP hH hM hC hs h0 hn hi) (E.ct s) 0 5000 (by omega) (by omega)
  have lp : ∀ (d k f : Nat) (a : Int64), k + d = E.ct 0 → d < f → FX10_digestStep_23 LF f (nI i) (fdg (fun k => τ.2.2.2.2 0 k i) k a) (nI k) τ = some (fdg (fun n => (E.dn 3 n).1 (hsC τ) i) (E.ct 3) (fdg (fun n => (E.dn 1 n).1 (hsC τ) i) (E.ct 1) (fdg (fun n => (E.dn 2 n).1 (hsC τ) i) (E.ct 2) (fdg (fun k => τ.2.2.2.2 0 k i) (E.ct 0) a))), τ) := by
    intro d
    induction d with
    | zero =>
      intro k f a hk hf
      obtain ⟨f, rfl⟩ : ∃ z, f = z + 1 := ⟨f - 1, by omega⟩
      have hk : k = E.ct 0 := by omega
      have h0 : FX10_howMany 0 τ = some (nI (E.ct 0), τ) := hw 0 (by decide)
      have s2 : ∀ a, FX10_digestSort LF a 2 (nI i) τ = _ := fun a => so 2 a (by decide) (by decide)
      have s1 : ∀ a, FX10_digestSort LF a 1 (nI i) τ = _ := fun a => so 1 a (by decide) (by decide)
      have s3 : ∀ a, FX10_digestSort LF a 3 (nI i) τ = _ := fun a => so 3 a (by decide) (by decide)
      rw [FX10_digestStep_23, h0, b2r, if_pos (nI_le (by omega) (by omega)), hk, s2, b2r, s1, b2r, s3, b2r]
    | succ d ih =>
      intro k f a hk hf
      obtain ⟨f, rfl⟩ : ∃ z, f = z + 1 := ⟨f - 1, by omega⟩
      have h0 : FX10_howMany 0 τ = some (nI (E.ct 0), τ) := hw 0 (by decide)
      rw [FX10_digestStep_23, h0, b2r, if_neg (by rw [nI_leI (by omega) (by omega)]; omega), gT (show k < 8 by omega) (by decide) (by omega), ← nI_succ]
      exact ih (k + 1) f a (by omega) (by omega)
  rw [FX10_digestStep, gI (show i < 120 by omega) (by decide)]
  exact lp (E.ct 0) 0 5000 (d0 * 31 + (τ.2.2.1 46 i).toInt64) (by omega) (by omega)
theorem cD106 (hh : FX10_howMany 0 τ = some (nI c, τ)) (hc : c ≤ 8) : ∀ (d k f : Nat), k + d = c → d < f → FX10_digest_106 L f (fdg (τ.2.2.2.1 58) k a) (nI k) τ = some (fdg (τ.2.2.2.1 58) c a, τ)
  | 0, k, f, hk, hf => by
    obtain ⟨f, rfl⟩ : ∃ z, f = z + 1 := ⟨f - 1, by omega⟩
    have : k = c := by omega
    subst this
    rw [FX10_digest_106, hh, b2r, if_pos (nI_le (Nat.le_refl _) (by omega))]
  | d+1, k, f, hk, hf => by
    obtain ⟨f, rfl⟩ : ∃ z, f = z + 1 := ⟨f - 1, by omega⟩
    rw [FX10_digest_106, hh, b2r, if_neg (by rw [nI_leI (by omega) (by omega)]; omega), gL (show k < 8 by omega) (by decide), ← nI_succ]
    exact cD106 hh hc d (k + 1) f (by omega) (by omega)
theorem cD71 {k59 : Int64 → Int32 → CS → Option (Int64 × CS)} {w : Nat} (hA : ∀ x, x < 5 → FX10_toldOf L (nI w) (nI x) τ = some ((tWh (E.lv w) (hoW E τ w) st (nI x)), τ)) : ∀ (d k f : Nat), k + d = 5 → d < f → FX10_digest_71 L k59 f (fdg (fun x => (tWh (E.lv w) (hoW E τ w) st (nI x)).toInt64) k a) (nI w) (nI k) τ = k59 (fdg (fun x => (tWh (E.lv w) (hoW E τ w) st (nI x)).toInt64) 5 a) (nI (w + 1)) τ
  | 0, k, f, hk, hf => by
    obtain ⟨f, rfl⟩ : ∃ z, f = z + 1 := ⟨f - 1, by omega⟩
    have : k = 5 := by omega
    subst this
    rw [FX10_digest_71, if_pos (by decide), ← nI_succ]
  | d+1, k, f, hk, hf => by
    obtain ⟨f, rfl⟩ : ∃ z, f = z + 1 := ⟨f - 1, by omega⟩
    rw [FX10_digest_71, if_neg (by rw [show (5 : Int32) = nI 5 from rfl, nI_leI (by omega) (by omega)]; omega), hA k (by omega), b2r, ← nI_succ]
    exact cD71 hA d (k + 1) f (by omega) (by omega)
theorem cD59 (h3 : FX10_howMany 3 τ = some (nI (E.ct 3), τ)) (h0 : FX10_howMany 0 τ = some (nI (E.ct 0), τ)) (c12 : E.ct 3 ≤ 12) (c8 : E.ct 0 ≤ 8) (hA : ∀ w, w < E.ct 3 → ∀ x, x < 5 → FX10_toldOf LF (nI w) (nI x) τ = some ((tWh (E.lv w) (hoW E τ w) st (nI x)), τ)) : ∀ (d k f : Nat), k + d = E.ct 3 → d < f → FX10_digest_59 LF f (wfd E τ st k a) (nI k) τ = some (fdg (τ.2.2.2.1 58) (E.ct 0) (wfd E τ st (E.ct 3) a), τ)
  | 0, k, f, hk, hf => by
    obtain ⟨f, rfl⟩ : ∃ z, f = z + 1 := ⟨f - 1, by omega⟩
    have hk : k = E.ct 3 := by omega
    rw [FX10_digest_59, h3, b2r, if_pos (nI_le (by omega) (by omega)), hk]
    exact cD106 (a := wfd E τ st (E.ct 3) a) h0 c8 (E.ct 0) 0 5000 (by omega) (by omega)
  | d+1, k, f, hk, hf => by
    obtain ⟨f, rfl⟩ : ∃ z, f = z + 1 := ⟨f - 1, by omega⟩
    have e := cD71 (k59 := FX10_digest_59 LF f) (a := wfd E τ st k a) (hA k (by omega)) 5 0 5000 (by omega) (by omega)
    have e : FX10_digest_71 LF (FX10_digest_59 LF f) LF (wfd E τ st k a) (nI k) 0 τ = FX10_digest_59 LF f (wfd E τ st (k + 1) a) (nI (k + 1)) τ := e
    rw [FX10_digest_59, h3, b2r, if_neg (by rw [nI_leI (by omega) (by omega)]; omega), e]
    exact cD59 h3 h0 c12 c8 hA d (k + 1) f (by omega) (by omega)
theorem cD33 (h44 : τ.1 4402 = nI st) (h120 : st ≤ 120) (hS : ∀ i, i < st → ∀ d0, FX10_digestStep LF d0 (nI i) τ = some (stpD E τ i d0, τ)) : ∀ (d k f : Nat), k + d = st → d < f → FX10_digest_33 LF f (sfd E τ k a) (nI k) τ = FX10_digest_59 LF LF (sfd E τ st a) 0 τ
  | 0, k, f, hk, hf => by
    obtain ⟨f, rfl⟩ : ∃ z, f = z + 1 := ⟨f - 1, by omega⟩
    have hk : k = st := by omega
    rw [FX10_digest_33, h44, if_pos (nI_le (by omega) (by omega)), hk]
  | d+1, k, f, hk, hf => by
    obtain ⟨f, rfl⟩ : ∃ z, f = z + 1 := ⟨f - 1, by omega⟩
    rw [FX10_digest_33, h44, if_neg (by rw [nI_leI (by omega) (by omega)]; omega), hS k (by omega), b2r, ← nI_succ]
    exact cD33 h44 h120 hS d (k + 1) f (by omega) (by omega)
theorem cD6 {cv : Nat → Int32} (hA : ∀ n, n < 7 → FX10_howMany (nI n) τ = some (cv n, τ)) : ∀ (d k f : Nat), k + d = 7 → d < f → FX10_digest_6 L f (fdg (fun n => (cv n).toInt64) k a) (nI k) τ = FX10_digest_33 L L (fdg (fun n => (cv n).toInt64) 7 a) 0 τ
  | 0, k, f, hk, hf => by
    obtain ⟨f, rfl⟩ : ∃ z, f = z + 1 := ⟨f - 1, by omega⟩
    have : k = 7 := by omega
    subst this
    rw [FX10_digest_6, if_pos (by decide)]
  | d+1, k, f, hk, hf => by
    obtain ⟨f, rfl⟩ : ∃ z, f = z + 1 := ⟨f - 1, by omega⟩
    rw [FX10_digest_6, if_neg (by rw [show (7 : Int32) = nI 7 from rfl, nI_leI (by omega) (by omega)]; omega), hA k (by omega), b2r, ← nI_succ]
    exact cD6 hA d (k + 1) f (by omega) (by omega)
-- the reference's
theorem rD281 (hct : σ.2.1 23 0 = nI c) (hc : c ≤ 8) (hg : ∀ k, k < c → σ.2.2 32 k = g k) : ∀ (d k f : Nat), k + d = c → d < f → FX11_digest_281 L f (fdg g k a) (nI k) σ = some (fdg g c a, σ)
  | 0, k, f, hk, hf => by
    obtain ⟨f, rfl⟩ : ∃ z, f = z + 1 := ⟨f - 1, by omega⟩
    have : k = c := by omega
    subst this
    rw [FX11_digest_281, if_neg (by decide), show (0 : Int32).toNatClampNeg = 0 from rfl, hct, if_pos (nI_le (Nat.le_refl _) (by omega))]
  | d+1, k, f, hk, hf => by
    obtain ⟨f, rfl⟩ : ∃ z, f = z + 1 := ⟨f - 1, by omega⟩
    rw [FX11_digest_281, if_neg (by decide), show (0 : Int32).toNatClampNeg = 0 from rfl, hct, if_neg (by rw [nI_leI (by omega) (by omega)]; omega), if_neg (nI_in (show k < 8 by omega) (by decide)), nI_clamp (by omega), hg k (by omega), ← nI_succ]
    exact rD281 hct hc hg d (k + 1) f (by omega) (by omega)
theorem rD246 {k59 : Int64 → Int32 → MS → Option (Int64 × MS)} {w : Nat} (hA : ∀ x, x < 5 → FX11_toldOf L (nI w) (nI x) σ = some ((tWh (E.lv w) (hoW E τ w) st (nI x)), σ)) : ∀ (d k f : Nat), k + d = 5 → d < f → FX11_digest_246 L k59 f (fdg (fun x => (tWh (E.lv w) (hoW E τ w) st (nI x)).toInt64) k a) (nI w) (nI k) σ = k59 (fdg (fun x => (tWh (E.lv w) (hoW E τ w) st (nI x)).toInt64) 5 a) (nI (w + 1)) σ
  | 0, k, f, hk, hf => by
    obtain ⟨f, rfl⟩ : ∃ z, f = z + 1 := ⟨f - 1, by omega⟩
    have : k = 5 := by omega
    subst this
    rw [FX11_digest_246, if_pos (by decide), ← nI_succ]
  | d+1, k, f, hk, hf => by
    obtain ⟨f, rfl⟩ : ∃ z, f = z + 1 := ⟨f - 1, by omega⟩
    rw [FX11_digest_246, if_neg (by rw [show (5 : Int32) = nI 5 from rfl, nI_leI (by omega) (by omega)]; omega), hA k (by omega), b2r, ← nI_succ]
    exact rD246 hA d (k + 1) f (by omega) (by omega)
theorem rD233 (h3 : σ.2.1 23 3 = nI (E.ct 3)) (h0 : σ.2.1 23 0 = nI (E.ct 0)) (c12 : E.ct 3 ≤ 12) (c8 : E.ct 0 ≤ 8) (hg : ∀ k, k < E.ct 0 → σ.2.2 32 k = g k) (hA : ∀ w, w < E.ct 3 → ∀ x, x < 5 → FX11_toldOf LF (nI w) (nI x) σ = some ((tWh (E.lv w) (hoW E τ w) st (nI x)), σ)) : ∀ (d k f : Nat), k + d = E.ct 3 → d < f → FX11_digest_233 LF f (wfd E τ st k a) (nI k) σ = some (fdg g (E.ct 0) (wfd E τ st (E.ct 3) a), σ)
  | 0, k, f, hk, hf => by
    obtain ⟨f, rfl⟩ : ∃ z, f = z + 1 := ⟨f - 1, by omega⟩
    have hk : k = E.ct 3 := by omega
    rw [FX11_digest_233, if_neg (by decide), show (3 : Int32).toNatClampNeg = 3 from rfl, h3, if_pos (nI_le (by omega) (by omega)), hk]
    exact rD281 (a := wfd E τ st (E.ct 3) a) h0 c8 hg (E.ct 0) 0 5000 (by omega) (by omega)
  | d+1, k, f, hk, hf => by
    obtain ⟨f, rfl⟩ : ∃ z, f = z + 1 := ⟨f - 1, by omega⟩
    have e := rD246 (k59 := FX11_digest_233 LF f) (a := wfd E τ st k a) (hA k (by omega)) 5 0 5000 (by omega) (by omega)
    have e : FX11_digest_246 LF (FX11_digest_233 LF f) LF (wfd E τ st k a) (nI k) 0 σ = FX11_digest_233 LF f (wfd E τ st (k + 1) a) (nI (k + 1)) σ := e
    rw [FX11_digest_233, if_neg (by decide), show (3 : Int32).toNatClampNeg = 3 from rfl, h3, if_neg (by rw [nI_leI (by omega) (by omega)]; omega), e]
    exact rD233 h3 h0 c12 c8 hg hA d (k + 1) f (by omega) (by omega)
theorem rD186 {k38 : Int64 → Int32 → MS → Option (Int64 × MS)} (hct : σ.2.1 23 3 = nI c) (hc : c ≤ 12) (hA : ∀ n, n < c → FX11_at (σ.2.1 25 (36 + n)) (nI i) σ = some (g n, σ)) : ∀ (d k f : Nat), k + d = c → d < f → FX11_digest_186 L k38 f (fdg g k a) (nI i) (nI k) σ = k38 (fdg g c a) (nI (i + 1)) σ
  | 0, k, f, hk, hf => by
    obtain ⟨f, rfl⟩ : ∃ z, f = z + 1 := ⟨f - 1, by omega⟩
    have : k = c := by omega
    subst this
    rw [FX11_digest_186, if_neg (by decide), show (3 : Int32).toNatClampNeg = 3 from rfl, hct, if_pos (nI_le (Nat.le_refl _) (by omega)), ← nI_succ]
  | d+1, k, f, hk, hf => by
    obtain ⟨f, rfl⟩ : ∃ z, f = z + 1 := ⟨f - 1, by omega⟩
    rw [FX11_digest_186, if_neg (by decide), show (3 : Int32).toNatClampNeg = 3 from rfl, hct, if_neg (by rw [nI_leI (by omega) (by omega)]; omega), show (36 : Int32) + nI k = nI (36 + k) from nI_add 36 k, if_neg (nI_in (show 36 + k < 48 by omega) (by decide)), nI_clamp (by omega), hA k (by omega), b2r, ← nI_succ]
    exact rD186 hct hc hA d (k + 1) f (by omega) (by omega)
theorem rD144 {k38 : Int64 → Int32 → MS → Option (Int64 × MS)} (hct : σ.2.1 23 1 = nI c) (hc : c ≤ 12) (hA : ∀ n, n < c → FX11_at (σ.2.1 25 (12 + n)) (nI i) σ = some (g n, σ)) : ∀ (d k f : Nat), k + d = c → d < f → FX11_digest_144 L k38 f (fdg g k a) (nI i) (nI k) σ = FX11_digest_186 L k38 L (fdg g c a) (nI i) 0 σ
  | 0, k, f, hk, hf => by
    obtain ⟨f, rfl⟩ : ∃ z, f = z + 1 := ⟨f - 1, by omega⟩
    have : k = c := by omega
    subst this
    rw [FX11_digest_144, if_neg (by decide), show (1 : Int32).toNatClampNeg = 1 from rfl, hct, if_pos (nI_le (Nat.le_refl _) (by omega))]
  | d+1, k, f, hk, hf => by
    obtain ⟨f, rfl⟩ : ∃ z, f = z + 1 := ⟨f - 1, by omega⟩
    rw [FX11_digest_144, if_neg (by decide), show (1 : Int32).toNatClampNeg = 1 from rfl, hct, if_neg (by rw [nI_leI (by omega) (by omega)]; omega), show (12 : Int32) + nI k = nI (12 + k) from nI_add 12 k, if_neg (nI_in (show 12 + k < 48 by omega) (by decide)), nI_clamp (by omega), hA k (by omega), b2r, ← nI_succ]
    exact rD144 hct hc hA d (k + 1) f (by omega) (by omega)
theorem rD102 {k38 : Int64 → Int32 → MS → Option (Int64 × MS)} (hct : σ.2.1 23 2 = nI c) (hc : c ≤ 12) (hA : ∀ n, n < c → FX11_at (σ.2.1 25 (24 + n)) (nI i) σ = some (g n, σ)) : ∀ (d k f : Nat), k + d = c → d < f → FX11_digest_102 L k38 f (fdg g k a) (nI i) (nI k) σ = FX11_digest_144 L k38 L (fdg g c a) (nI i) 0 σ
  | 0, k, f, hk, hf => by
    obtain ⟨f, rfl⟩ : ∃ z, f = z + 1 := ⟨f - 1, by omega⟩
    have : k = c := by omega
    subst this
    rw [FX11_digest_102, if_neg (by decide), show (2 : Int32).toNatClampNeg = 2 from rfl, hct, if_pos (nI_le (Nat.le_refl _) (by omega))]
  | d+1, k, f, hk, hf => by
    obtain ⟨f, rfl⟩ : ∃ z, f = z + 1 := ⟨f - 1, by omega⟩
    rw [FX11_digest_102, if_neg (by decide), show (2 : Int32).toNatClampNeg = 2 from rfl, hct, if_neg (by rw [nI_leI (by omega) (by omega)]; omega), show (24 : Int32) + nI k = nI (24 + k) from nI_add 24 k, if_neg (nI_in (show 24 + k < 48 by omega) (by decide)), nI_clamp (by omega), hA k (by omega), b2r, ← nI_succ]
    exact rD102 hct hc hA d (k + 1) f (by omega) (by omega)
theorem rD63 {k38 : Int64 → Int32 → MS → Option (Int64 × MS)} (hct : σ.2.1 23 0 = nI c) (hc : c ≤ 8) (hi : i < 120) (hg : ∀ k, k < c → σ.2.2 31 (8 * i + k) = g k) : ∀ (d k f : Nat), k + d = c → d < f → FX11_digest_63 L k38 f (fdg g k a) (nI i) (nI k) σ = FX11_digest_102 L k38 L (fdg g c a) (nI i) 0 σ
  | 0, k, f, hk, hf => by
    obtain ⟨f, rfl⟩ : ∃ z, f = z + 1 := ⟨f - 1, by omega⟩
    have : k = c := by omega
    subst this
    rw [FX11_digest_63, if_neg (by decide), show (0 : Int32).toNatClampNeg = 0 from rfl, hct, if_pos (nI_le (Nat.le_refl _) (by omega))]
  | d+1, k, f, hk, hf => by
    obtain ⟨f, rfl⟩ : ∃ z, f = z + 1 := ⟨f - 1, by omega⟩
    obtain ⟨i1, i2, i3⟩ := ix_sg (show k < 8 by omega) hi
    rw [FX11_digest_63, if_neg (by decide), show (0 : Int32).toNatClampNeg = 0 from rfl, hct, if_neg (by rw [nI_leI (by omega) (by omega)]; omega), i1, if_neg i2, i3, hg k (by omega), ← nI_succ]
    exact rD63 hct hc hi hg d (k + 1) f (by omega) (by omega)
theorem rD38 (hP : RProg E nm nc σ τ) (hH : RHist c st σ τ) (hM : TabM nm st σ) (hC : TabC (fun q => q < nc) st τ) : ∀ (d k f : Nat), k + d = st → d < f → FX11_digest_38 LF f (sfd E τ k a) (nI k) σ = FX11_digest_233 LF LF (sfd E τ st a) 0 σ
  | 0, k, f, hk, hf => by
    obtain ⟨f, rfl⟩ : ∃ z, f = z + 1 := ⟨f - 1, by omega⟩
    have h120 := hH.1
    have hk : k = st := by omega
    rw [FX11_digest_38, hH.2.1, if_pos (nI_le (by omega) (by omega)), hk]
  | d+1, k, f, hk, hf => by
    obtain ⟨f, rfl⟩ : ∃ z, f = z + 1 := ⟨f - 1, by omega⟩
    have h120 := hH.1
    have c8 := hP.1.c8
    have cs : ∀ s, s < 4 → E.ct s ≤ 12 := fun s hs => hP.1.c12 hs
    have rc := hP.2.2.1.2.2.1
    have at' : ∀ s, s < 4 → s ≠ 0 → ∀ n, n < E.ct s → FX11_at (σ.2.1 25 (12 * s + n)) (nI k) σ = some ((E.dn s n).1 (hsC τ) k, σ) := fun s hs h0 n hn => rAtV hP hH hM hC hs h0 hn (by omega)
    have e1 := rD63 (L := LF) (k38 := FX11_digest_38 LF f) (i := k) (g := fun j => τ.2.2.2.2 0 j k) (a := sfd E τ k a * 31 + (τ.2.2.1 46 k).toInt64) (rc 0 (by decide)) c8 (by omega) (fun j hj => hH.2.2.2.2.2.1 j k (by omega) (by omega)) (E.ct 0) 0 5000 (by omega) (by have := cs 0 (by decide); omega)
    have e1 : FX11_digest_63 LF (FX11_digest_38 LF f) LF (sfd E τ k a * 31 + (τ.2.2.1 46 k).toInt64) (nI k) 0 σ = _ := e1
    have e2 : ∀ a, FX11_digest_102 LF (FX11_digest_38 LF f) LF a (nI k) 0 σ = _ := fun a => rD102 (L := LF) (k38 := FX11_digest_38 LF f) (i := k) (a := a) (rc 2 (by decide)) (cs 2 (by decide)) (at' 2 (by decide) (by decide)) (E.ct 2) 0 5000 (by omega) (by have := cs 2 (by decide); omega)
    have e3 : ∀ a, FX11_digest_144 LF (FX11_digest_38 LF f) LF a (nI k) 0 σ = _ := fun a => rD144 (L := LF) (k38 := FX11_digest_38 LF f) (i := k) (a := a) (rc 1 (by decide)) (cs 1 (by decide)) (at' 1 (by decide) (by decide)) (E.ct 1) 0 5000 (by omega) (by have := cs 1 (by decide); omega)
    have e4 : ∀ a, FX11_digest_186 LF (FX11_digest_38 LF f) LF a (nI k) 0 σ = _ := fun a => rD186 (L := LF) (k38 := FX11_digest_38 LF f) (i := k) (a := a) (rc 3 (by decide)) (cs 3 (by decide)) (at' 3 (by decide) (by decide)) (E.ct 3) 0 5000 (by omega) (by have := cs 3 (by decide); omega)
    rw [FX11_digest_38, hH.2.1, if_neg (by rw [nI_leI (by omega) (by omega)]; omega), if_neg (nI_in (show k < 120 by omega) (by decide)), nI_clamp (by omega), hH.2.2.2.2.1 k (by omega), e1, e2, e3, e4]
    exact rD38 hP hH hM hC d (k + 1) f (by omega) (by omega)
theorem rD11 {cv : Nat → Int32} (hA : ∀ n, n < 7 → FX11_counted (nI n) σ = some (cv n, σ)) : ∀ (d k f : Nat), k + d = 7 → d < f → FX11_digest_11 L f (fdg (fun n => (cv n).toInt64) k a) (nI k) σ = FX11_digest_38 L L (fdg (fun n => (cv n).toInt64) 7 a) 0 σ
  | 0, k, f, hk, hf => by
    obtain ⟨f, rfl⟩ : ∃ z, f = z + 1 := ⟨f - 1, by omega⟩
    have : k = 7 := by omega
    subst this
    rw [FX11_digest_11, if_pos (by decide)]
  | d+1, k, f, hk, hf => by
    obtain ⟨f, rfl⟩ : ∃ z, f = z + 1 := ⟨f - 1, by omega⟩
    rw [FX11_digest_11, if_neg (by rw [show (7 : Int32) = nI 7 from rfl, nI_leI (by omega) (by omega)]; omega), hA k (by omega), b2r, ← nI_succ]
    exact rD11 hA d (k + 1) f (by omega) (by omega)
theorem ok_digest : OK_digest (Rel kw) := by
  intro σ τ h
  obtain ⟨len, E, nm, nc, st, ks, km, hT, hP, hH, hK, hM, hC, hA⟩ := id h
  have h120 := hH.1
  have c8 := hP.1.c8
  have c12 : E.ct 3 ≤ 12 := hP.1.c12 (by decide)
  have : ∃ cv : Nat → Int32, ∀ n, n < 7 → FX11_counted (nI n) (sI σ 0 0) = some (cv n, sI σ 0 0) ∧ FX10_howMany (nI n) τ = some (cv n, τ) := chF (fun n z => countV (σ := sI σ 0 0) hT hP hH hK z)
  obtain ⟨cv, hcv⟩ := this
  have hw : ∀ s, s < 4 → FX10_howMany (nI s) τ = some (nI (E.ct s), τ) := fun s hs => by
    rw [FX10_howMany, if_neg (by rw [show (4 : Int32) = nI 4 from rfl, nI_eq (by omega) (by omega)]; omega), if_neg (by rw [show (5 : Int32) = nI 5 from rfl, nI_eq (by omega) (by omega)]; omega), if_neg (by rw [show (6 : Int32) = nI 6 from rfl, nI_eq (by omega) (by omega)]; omega), gI hs (by decide), hP.2.2.2.1.2.2.1 s hs]
  refine ⟨fdg (τ.2.2.2.1 58) (E.ct 0) (wfd E τ st (E.ct 3) (sfd E τ st (fdg (fun n => (cv n).toInt64) 7 383))), τ, sI σ 0 0, ?_, ?_, h.s0⟩
  · have e1 : FX10_digest LF τ = FX10_digest_33 LF LF (fdg (fun n => (cv n).toInt64) 7 383) 0 τ := cD6 (L := LF) (a := 383) (fun n hn => (hcv n hn).2) 7 0 5000 (by omega) (by omega)
    have e2 : ∀ a, FX10_digest_33 LF LF a 0 τ = FX10_digest_59 LF LF (sfd E τ st a) 0 τ := fun a => cD33 (a := a) hH.2.2.1 h120 (fun i hi d0 => cDStep hP hH hM hC hi) st 0 5000 (by omega) (by omega)
    have e3 : ∀ a, FX10_digest_59 LF LF a 0 τ = _ := fun a => cD59 (st := st) (a := a) (hw 3 (by decide)) (hw 0 (by decide)) c12 c8 (fun w hw x hx => (toldV hP hH hM hC hw (nI x)).2) (E.ct 3) 0 5000 (by omega) (by omega)
    rw [e1, e2, e3]
  · have e1 : FX11_digest LF σ = FX11_digest_38 LF LF (fdg (fun n => (cv n).toInt64) 7 383) 0 (sI σ 0 0) := rD11 (L := LF) (a := 383) (fun n hn => (hcv n hn).1) 7 0 5000 (by omega) (by omega)
    have e2 : ∀ a, FX11_digest_38 LF LF a 0 (sI σ 0 0) = FX11_digest_233 LF LF (sfd E τ st a) 0 (sI σ 0 0) := fun a => rD38 (σ := sI σ 0 0) (a := a) hP hH hM hC st 0 5000 (by omega) (by omega)
    have e3 : ∀ a, FX11_digest_233 LF LF a 0 (sI σ 0 0) = _ := fun a => rD233 (σ := sI σ 0 0) (τ := τ) (st := st) (g := τ.2.2.2.1 58) (a := a) (hP.2.2.1.2.2.1 3 (by decide)) (hP.2.2.1.2.2.1 0 (by decide)) c12 c8 hH.2.2.2.2.2.2 (fun w hw x hx => (toldV (σ := sI σ 0 0) hP hH hM hC hw (nI x)).1) (E.ct 3) 0 5000 (by omega) (by omega)
    rw [e1, e2, e3]
end RD
