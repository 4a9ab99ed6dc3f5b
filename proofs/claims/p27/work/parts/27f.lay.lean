-- the law lays a text on the tape
def byA (B : List Int32) (i : Nat) : Int32 := if i < B.length then B.getD i 0 else 32
def OkB (B : List Int32) : Prop := ∀ i, i < B.length → ∃ b, b < 128 ∧ B.getD i 0 = nI b
theorem OkL.b {B : List Int32} (h : OkL B) : OkB B := by
  intro i hi
  have e : B.getD i 0 = B[i] := by rw [List.getD_eq_getElem?_getD, List.getElem?_eq_getElem hi]; rfl
  obtain ⟨h1, h2⟩ := h B[i] (List.getElem_mem hi)
  exact ⟨_, h1, e.trans h2⟩
theorem OkL.n1 {B : List Int32} (h : OkL B) : ∀ x ∈ B, x ≠ -1 := by
  intro x hx e
  have h2 := (h x hx).2
  rw [e] at h2
  exact absurd h2 (by decide)
def bN (B : List Int32) (i : Nat) : Nat := (byA B i).toNatClampNeg
def pkN (g : Nat → Nat) : Nat → Nat
  | 0 => 0
  | c+1 => pkN g c * 256 + g c
section LY
variable {σ : LwS} {τ : CS} {B : List Int32} {k n p v b : Nat} {f : Nat → Int32} {g : Nat → Nat} {kw : Nat → Int64} {len nm nc st ks km : Nat} {E : EnvN} {σm : MS}
theorem bN_ok (h : OkB B) (i : Nat) : bN B i < 128 ∧ byA B i = nI (bN B i) := by
  unfold bN byA
  by_cases z : i < B.length
  · obtain ⟨b, h1, h2⟩ := h i z
    rw [if_pos z, h2, nI_clamp (by omega)]
    exact ⟨h1, rfl⟩
  · rw [if_neg z]
    exact ⟨by decide, by decide⟩
theorem or_nI (hb : b < 256) (hv : v * 256 + b < 2 ^ 31) : nI (v * 256) ||| nI b = nI (v * 256 + b) := by
  have h1 : v * 256 + b < 2 ^ 32 := Nat.lt_trans hv (by decide)
  have h2 : v * 256 < 2 ^ 32 := Nat.lt_of_le_of_lt (Nat.le_add_right _ _) h1
  have h3 : b < 2 ^ 32 := Nat.lt_trans hb (by decide)
  apply Int32.toBitVec_inj.mp
  apply BitVec.eq_of_toNat_eq
  rw [Int32.toBitVec_or, BitVec.toNat_or, pk_tn h2, pk_tn h3, pk_tn h1, Nat.mul_comm v 256]
  exact (Nat.two_pow_add_eq_or_of_lt (i := 8) (by omega) v).symm
theorem sh8 (hb : b < 256) (hv : v * 256 + b < 2 ^ 31) : (nI v <<< ((8 : Int32) &&& 31)) ||| nI b = nI (v * 256 + b) := by
  have h1 : v * 2 ^ 8 < 2 ^ 32 := Nat.lt_of_le_of_lt (Nat.le_add_right _ b) (Nat.lt_trans hv (by decide))
  rw [pk_shlN ((8 : Int32) &&& 31) 8 (by decide) h1]
  exact or_nI hb hv
theorem pkN_lt (hg : ∀ t, g t < 128) : pkN g 1 < 128 ∧ pkN g 2 < 32768 ∧ pkN g 3 < 8388608 ∧ pkN g 4 < 2147483648 := by
  have h0 := hg 0
  have h1 := hg 1
  have h2 := hg 2
  have h3 := hg 3
  show 0 * 256 + g 0 < _ ∧ (0 * 256 + g 0) * 256 + g 1 < _ ∧ ((0 * 256 + g 0) * 256 + g 1) * 256 + g 2 < _ ∧ (((0 * 256 + g 0) * 256 + g 1) * 256 + g 2) * 256 + g 3 < _
  omega
theorem by4_ok (hg : ∀ t, g t < 128) : by4 f p (nI (pkN g 4)) = upd (upd (upd (upd f p (nI (g 0))) (p + 1) (nI (g 1))) (p + 2) (nI (g 2))) (p + 3) (nI (g 3)) := by
  have h0 := hg 0
  have h1 := hg 1
  have h2 := hg 2
  have h3 := hg 3
  have hX : pkN g 4 < 2 ^ 31 := (pkN_lt hg).2.2.2
  have e : pkN g 4 = (((0 * 256 + g 0) * 256 + g 1) * 256 + g 2) * 256 + g 3 := rfl
  have s24 : (nI (pkN g 4) >>> 24) &&& 255 = nI (g 0) := by
    rw [pk_shrN hX 24 24 (by decide), pk_andN (by omega) 8 (by decide)]
    congr 1
    omega
  have s16 : (nI (pkN g 4) >>> 16) &&& 255 = nI (g 1) := by
    rw [pk_shrN hX 16 16 (by decide), pk_andN (by omega) 8 (by decide)]
    congr 1
    omega
  have s8 : (nI (pkN g 4) >>> 8) &&& 255 = nI (g 2) := by
    rw [pk_shrN hX 8 8 (by decide), pk_andN (by omega) 8 (by decide)]
    congr 1
    omega
  have s0 : (nI (pkN g 4) >>> 0) &&& 255 = nI (g 3) := by
    rw [pk_shrN hX 0 0 (by decide), pk_andN (by omega) 8 (by decide)]
    congr 1
    omega
  unfold by4
  rw [s24, s16, s8, s0]
def InvX (B : List Int32) (k j : Nat) (xc : Nat → Int32) : Prop := ∀ i, i < 5 → xc i = nI (pkN (fun t => bN B (k + 4 * i + t)) (min 4 (j - 4 * i)))
theorem InvX.next {j : Nat} {xc : Nat → Int32} (hb : OkB B) (h : InvX B k j xc) (hj : j < 20) : InvX B k (j + 1) (upd xc (j / 4) ((xc (j / 4) <<< ((8 : Int32) &&& 31)) ||| nI (bN B (k + j)))) := by
  intro i hi
  by_cases z : i = j / 4
  · subst z
    have hm : min 4 (j - 4 * (j / 4)) = j % 4 := by omega
    have hm2 : min 4 (j + 1 - 4 * (j / 4)) = j % 4 + 1 := by omega
    have hg : ∀ t, bN B (k + 4 * (j / 4) + t) < 128 := fun t => (bN_ok hb _).1
    have hl := pkN_lt (g := fun t => bN B (k + 4 * (j / 4) + t)) hg
    have hv : pkN (fun t => bN B (k + 4 * (j / 4) + t)) (j % 4) < 8388608 := by
      have : j % 4 = 0 ∨ j % 4 = 1 ∨ j % 4 = 2 ∨ j % 4 = 3 := by omega
      rcases this with e | e | e | e <;> rw [e]
      · show 0 < _; omega
      · omega
      · omega
      · exact hl.2.2.1
    have hb2 := (bN_ok hb (k + j)).1
    rw [upd_s, h (j / 4) hi, hm, hm2, sh8 (by omega) (by omega)]
    show _ = nI (pkN (fun t => bN B (k + 4 * (j / 4) + t)) (j % 4) * 256 + bN B (k + 4 * (j / 4) + j % 4))
    rw [show k + 4 * (j / 4) + j % 4 = k + j by omega]
  · rw [upd_n z, h i hi]
    have : min 4 (j + 1 - 4 * i) = min 4 (j - 4 * i) := by omega
    rw [this]
theorem n4 : (4 : Int32) = nI 4 := rfl
theorem lay28 (h : Rw (σ.2 0) B) (hb : OkB B) (hk : k ≤ 1720) {k14 : Int32 → Int32 → Int32 → LwS → Option (Int32 × LwS)} {x2 : Int32} : ∀ (d j q : Nat) (xc : Nat → Int32), j + d = 20 → d < q → InvX B k j xc → ∃ xc', FL_lay_28 LF k14 q x2 (nI B.length) (nI k) (nI j) xc σ = (b2 (FX10_feed LF (xc' 0) (xc' 1) (xc' 2) (xc' 3) (xc' 4) σ.1) fun o_13 τ_13 => (oRt o_13).bind fun _ => k14 x2 (nI B.length) (nI (k + 20)) (rC σ τ_13)) ∧ InvX B k 20 xc'
  | 0, j, q, xc, hj, hq, hI => by
    obtain ⟨q, rfl⟩ : ∃ z, q = z + 1 := ⟨q - 1, by omega⟩
    have hj : j = 20 := by omega
    subst hj
    refine ⟨xc, ?_, hI⟩
    rw [FL_lay_28, if_pos (by decide), if_neg (by decide), if_neg (by decide), if_neg (by decide), if_neg (by decide), if_neg (by decide), show (20 : Int32) = nI 20 from rfl, nI_add]
    rfl
  | d+1, j, q, xc, hj, hq, hI => by
    obtain ⟨q, rfl⟩ : ∃ z, q = z + 1 := ⟨q - 1, by omega⟩
    have hl := h.2.1
    have e4 : nI j / 4 = nI (j / 4) := by rw [n4, nI_div (by omega) (by decide) (by decide)]
    have i4 : ¬ (nI (j / 4) < 0 ∨ 5 ≤ (nI (j / 4)).toNatClampNeg) := nI_in (show j / 4 < 5 by omega) (by decide)
    have i5 : ¬ (nI (j / 4) < 0 ∨ 5 ≤ j / 4) := by rw [nI_clamp (show j / 4 < 2 ^ 31 by omega)] at i4; exact i4
    have ea : nI k + nI j = nI (k + j) := nI_add _ _
    have e1 : (1 : Int32) + nI k + nI j = nI (1 + (k + j)) := by rw [n1, nI_add, nI_add]; congr 1; omega
    rw [FL_lay_28, if_neg (by rw [show (20 : Int32) = nI 20 from rfl, nI_leI (by omega) (by omega)]; omega), e4, if_neg i4, ea, nI_clamp (show j / 4 < 2 ^ 31 by omega)]
    have nx := hI.next hb (show j < 20 by omega)
    have hby := (bN_ok hb (k + j)).2
    by_cases z : B.length ≤ k + j
    · rw [if_pos (nI_le z (by omega)), if_neg i5, ← nI_succ]
      have : (32 : Int32) = nI (bN B (k + j)) := by rw [← hby]; unfold byA; rw [if_neg (by omega)]
      rw [this]
      exact lay28 h hb hk d (j + 1) q _ (by omega) (by omega) nx
    · rw [if_neg (by rw [nI_leI (by omega) (by omega)]; exact z), e1, if_neg (nI_in (show 1 + (k + j) < 1700 by omega) (by decide)), if_neg i5, nI_clamp (show 1 + (k + j) < 2 ^ 31 by omega), h.2.2.1 (k + j) (by omega), ← nI_succ]
      have : B.getD (k + j) 0 = nI (bN B (k + j)) := by rw [← hby]; unfold byA; rw [if_pos (by omega)]
      rw [this]
      exact lay28 h hb hk d (j + 1) q _ (by omega) (by omega) nx
theorem w_feed (h : RelW kw len E nm nc st ks km σm τ) (z : len ≤ 1780) (p0 p1 p2 p3 p4 : Int32) : ∃ F, F = by4 (by4 (by4 (by4 (by4 (τ.2.2.1 3) len p0) (len + 4) p1) (len + 4 + 4) p2) (len + 4 + 4 + 4) p3) (len + 4 + 4 + 4 + 4) p4 ∧ FX10_feed LF p0 p1 p2 p3 p4 τ = some (.inr (nI (len + 20)), tI (tA τ 3 F) 101 (nI (len + 20))) ∧ ∃ σ', RelW kw (len + 20) E nm nc st ks km σ' (tI (tA τ 3 F) 101 (nI (len + 20))) := by
  obtain ⟨⟨t1, t2, t3, t4, t5, t6⟩, hP, hH, hK, hM, hC, hA⟩ := h
  have e1 : nI len ≤ (1780 : Int32) := by rw [show (1780 : Int32) = nI 1780 from rfl, nI_leI (by omega) (by omega)]; exact z
  have hl : 6 ≤ LF := by decide
  refine ⟨_, rfl, ?_, ?_⟩
  · have c1 := cApp (x := p0) hl t3 (by omega) rfl
    rw [FX10_feed, t3, if_pos e1, c1, b2r, cApp (x := p1) hl tI_g (by omega) tA_row, colC, b2r, cApp (x := p2) hl tI_g (by omega) tA_row, colC, b2r, cApp (x := p3) hl tI_g (by omega) tA_row, colC, b2r, cApp (x := p4) hl tI_g (by omega) tA_row, colC, b2r, tI_g]
  · generalize hF : by4 (by4 (by4 (by4 (by4 (τ.2.2.1 3) len p0) (len + 4) p1) (len + 4 + 4) p2) (len + 4 + 4 + 4) p3) (len + 4 + 4 + 4 + 4) p4 = F
    have okF : okBt F (len + 20) := by
      rw [← hF]
      exact ((((t4.by4 (by omega)).by4 (by omega)).by4 (by omega)).by4 (by omega)).by4 (by omega)
    refine ⟨sI (sA σm 1 F) 2 (nI (len + 20)), ⟨t1, sI_g, tI_g, by rw [show (tI (tA τ 3 F) 101 (nI (len + 20))).2.2.1 3 = F from tA_row]; exact okF, (sA_row (σ := σm)).trans (tA_row (σ := τ)).symm, t6⟩, hP, hH, hK, hM, hC, hA⟩
theorem w_trim (h : RelW kw len E nm nc st ks km σm τ) (z : n ≤ len) : FX10_trim (nI n) τ = some (.inr (nI n), tI τ 101 (nI n)) ∧ ∃ σ', RelW kw n E nm nc st ks km σ' (tI τ 101 (nI n)) := by
  obtain ⟨⟨t1, t2, t3, t4, t5, t6⟩, hP, hH, hK, hM, hC, hA⟩ := h
  have hlen := t4.1
  refine ⟨by rw [FX10_trim, t3, if_neg (nI_pos (by omega)), if_pos (nI_le z (by omega))], sI σm 2 (nI n), ⟨t1, sI_g, tI_g, t4.le z, t5, t6⟩, hP, hH, hK, hM, hC, hA⟩
/-- all that laying leaves as it is -/
def LayF (τ τ' : CS) : Prop := hsC τ' = hsC τ ∧ τ'.1 2808 = τ.1 2808 ∧ τ'.2.2.2.1 = τ.2.2.2.1
theorem lay14 (hr : Rw f B) (hb : OkB B) : ∀ (d k q : Nat) (σ : LwS) (σm : MS), B.length ≤ k + 20 * d → k ≤ B.length + 19 → d < q → σ.2 0 = f → RelW kw k E nm nc st ks km σm σ.1 → (∀ i, i < k → i < B.length → σ.1.2.2.1 3 i = B.getD i 0) → ∃ σ' σm', FL_lay_14 LF q (nI 0) (nI B.length) (nI k) σ = some (1, σ') ∧ σ'.2 = σ.2 ∧ RelW kw B.length E nm nc st ks km σm' σ'.1 ∧ (∀ i, i < B.length → σ'.1.2.2.1 3 i = B.getD i 0) ∧ LayF σ.1 σ'.1 := by
  intro d
  induction d with
  | zero =>
    intro k q σ σm hd hk hq hf hR hi
    obtain ⟨q, rfl⟩ : ∃ z, q = z + 1 := ⟨q - 1, by omega⟩
    have hl := hr.2.1
    obtain ⟨t1, σm', t2⟩ := w_trim hR (n := B.length) (by omega)
    refine ⟨rC σ (tI σ.1 101 (nI B.length)), σm', ?_, rfl, t2, fun i h => hi i (by omega) h, rfl, tI_o (by decide), rfl⟩
    rw [FL_lay_14, if_pos (nI_le (by omega) (by omega)), nI_add, Nat.zero_add, t1, b2r]
    show (if nI B.length = nI B.length then _ else _) = _
    rw [if_pos rfl]
  | succ d ih =>
    intro k q σ σm hd hk hq hf hR hi
    have hl := hr.2.1
    obtain ⟨q, rfl⟩ : ∃ z, q = z + 1 := ⟨q - 1, by omega⟩
    by_cases z : B.length ≤ k
    · obtain ⟨t1, σm', t2⟩ := w_trim hR (n := B.length) (by omega)
      refine ⟨rC σ (tI σ.1 101 (nI B.length)), σm', ?_, rfl, t2, fun i h => hi i (by omega) h, rfl, tI_o (by decide), rfl⟩
      rw [FL_lay_14, if_pos (nI_le (by omega) (by omega)), nI_add, Nat.zero_add, t1, b2r]
      show (if nI B.length = nI B.length then _ else _) = _
      rw [if_pos rfl]
    · obtain ⟨xc, e1, hX⟩ := lay28 (σ := σ) (B := B) (k := k) (k14 := FL_lay_14 LF q) (x2 := nI 0) (by rw [hf]; exact hr) hb (by omega) 20 0 LF (fun _ => 0) rfl (by decide) (fun i _ => by rw [show min 4 (0 - 4 * i) = 0 by omega]; rfl)
      have e1 : FL_lay_28 LF (FL_lay_14 LF q) LF (nI 0) (nI B.length) (nI k) 0 (fun _ => 0) σ = _ := e1
      obtain ⟨F, hF, f1, σm', f2⟩ := w_feed hR (show k ≤ 1780 by omega) (xc 0) (xc 1) (xc 2) (xc 3) (xc 4)
      have hg : ∀ a t, bN B (k + 4 * a + t) < 128 := fun a t => (bN_ok hb _).1
      have hx : ∀ a, a < 5 → xc a = nI (pkN (fun t => bN B (k + 4 * a + t)) 4) := fun a ha => by
        rw [hX a ha, show min 4 (20 - 4 * a) = 4 by omega]
      have hby : ∀ i, nI (bN B i) = byA B i := fun i => (bN_ok hb i).2.symm
      rw [hx 0 (by decide), hx 1 (by decide), hx 2 (by decide), hx 3 (by decide), hx 4 (by decide), by4_ok (hg 0), by4_ok (hg 1), by4_ok (hg 2), by4_ok (hg 3), by4_ok (hg 4)] at hF
      simp only [hby] at hF
      have hFi : ∀ i, i < k + 20 → i < B.length → F i = B.getD i 0 := by
        intro i h1 h2
        by_cases y : i < k
        · rw [hF]
          repeat rw [upd_n (by omega)]
          exact hi i y h2
        · obtain ⟨a, rfl⟩ : ∃ a, i = k + a := ⟨i - k, by omega⟩
          have hB : byA B (k + a) = B.getD (k + a) 0 := by unfold byA; rw [if_pos h2]
          rw [← hB, hF]
          have : a = 0 ∨ a = 1 ∨ a = 2 ∨ a = 3 ∨ a = 4 ∨ a = 5 ∨ a = 6 ∨ a = 7 ∨ a = 8 ∨ a = 9 ∨ a = 10 ∨ a = 11 ∨ a = 12 ∨ a = 13 ∨ a = 14 ∨ a = 15 ∨ a = 16 ∨ a = 17 ∨ a = 18 ∨ a = 19 := by omega
          rcases this with e | e | e | e | e | e | e | e | e | e | e | e | e | e | e | e | e | e | e | e <;> subst e <;> (repeat (first | rw [upd_s] | rw [upd_n (by omega)] | (show upd _ k _ k = _)))
      obtain ⟨σ2, σm2, a1, a2, a3, a4, a5⟩ := ih (k + 20) q (rC σ (tI (tA σ.1 3 F) 101 (nI (k + 20)))) σm' (by omega) (by omega) (by omega) hf f2 (fun i h1 h2 => by
        show (tA σ.1 3 F).2.2.1 3 i = _
        rw [tA_row]; exact hFi i h1 h2)
      refine ⟨σ2, σm2, ?_, a2, a3, a4, ?_⟩
      · rw [FL_lay_14, if_neg (by rw [nI_leI (by omega) (by omega)]; exact z)]
        refine e1.trans ?_
        rw [f1, b2r]
        exact a1
      · obtain ⟨l1, l2, l3⟩ := a5
        refine ⟨l1.trans ?_, l2.trans (tI_o (by decide)), l3⟩
        show ((tA σ.1 3 F).2.2.1 46, fun k i => σ.1.2.2.2.2 0 k i) = (σ.1.2.2.1 46, fun k i => σ.1.2.2.2.2 0 k i)
        rw [tA_o (by decide)]
theorem lay_z {q : Nat} (h : Rw (σ.2 0) B) : (if ((0 : Int32) < 0 ∨ 1700 ≤ (0 : Int32).toNatClampNeg) then none else FL_lay_14 LF q (nI 0) (σ.2 0 (0 : Int32).toNatClampNeg) (0 : Int32) (rC σ σ.1)) = FL_lay_14 LF q (nI 0) (nI B.length) (nI 0) (rC σ σ.1) := by
  rw [if_neg z0R, c0R, h.1]
  rfl
theorem lay_e (h : Rw (σ.2 0) B) (hR : RelW kw 0 E nm nc st ks km σm σ.1) : FL_lay LF σ = FL_lay_14 LF 90 (nI 0) (nI B.length) (nI 0) (rC σ σ.1) := by
  rw [FL_lay, w_count6 hR, b2r]
  exact lay_z h
theorem lay_ok (h : Rw (σ.2 0) B) (hb : OkB B) (hR : RelW kw 0 E nm nc st ks km σm σ.1) : ∃ σ' σm', FL_lay LF σ = some (1, σ') ∧ σ'.2 = σ.2 ∧ RelW kw B.length E nm nc st ks km σm' σ'.1 ∧ (∀ i, i < B.length → σ'.1.2.2.1 3 i = B.getD i 0) ∧ LayF σ.1 σ'.1 := by
  have hl := h.2.1
  obtain ⟨σ', σm', a1, a2, a3, a4, a5⟩ := lay14 (f := σ.2 0) h hb 85 0 90 (rC σ σ.1) σm (by omega) (by omega) (by decide) rfl hR (fun i hi => absurd hi (Nat.not_lt_zero _))
  exact ⟨σ', σm', (lay_e h hR).trans a1, a2, a3, a4, a5⟩
end LY
