-- parts that have moved mean what they meant
theorem dn_shift {T T' : NT} {P P' : Nat → Int32} {V W : Nat → Prop} {sh : Nat → Nat} (hT : okT V T) (hT' : okT W T') (hsh : ∀ n, V n → W (sh n)) (hrow : ∀ n, V n → (T' (sh n)).1 = (T n).1 ∧ (T' (sh n)).2.2.2.2 = (T n).2.2.2.2 ∧ P' (sh n) = P n ∧ ((T n).1 = 20 ∨ (T n).1 = 21 → (T' (sh n)).2.1 = (T n).2.1) ∧ ((T n).1 = 9 ∨ (T n).1 = 34 → (T' (sh n)).2.2.2.1 = (T n).2.2.2.1) ∧ (us1 (T n).1 = true → (T' (sh n)).2.1.toNatClampNeg = sh (T n).2.1.toNatClampNeg) ∧ (us2 (T n).1 = true → (T' (sh n)).2.2.1.toNatClampNeg = sh (T n).2.2.1.toNatClampNeg) ∧ (us3 (T n).1 = true → (T' (sh n)).2.2.2.1.toNatClampNeg = sh (T n).2.2.2.1.toNatClampNeg)) : ∀ n, V n → dnV T' (sh n) = dnV T n ∧ dnR T' P' (sh n) = dnR T P n := by
  intro n
  induction n using Nat.strongRecOn with
  | _ n ih =>
    intro hn
    obtain ⟨h2000, hk, k1, k2, k3, -⟩ := hT n hn
    obtain ⟨r1, r2, r3, r4, r5, r6, r7, r8⟩ := hrow n hn
    have c1 : us1 (T n).1 = true → dnV T' (sh (T n).2.1.toNatClampNeg) = dnV T (T n).2.1.toNatClampNeg ∧ dnR T' P' (sh (T n).2.1.toNatClampNeg) = dnR T P (T n).2.1.toNatClampNeg := fun u => by
      obtain ⟨m, v, l, e⟩ := k1 u
      rw [e, nI_clamp (by omega)]
      exact ih m l v
    have c2 : us2 (T n).1 = true → dnV T' (sh (T n).2.2.1.toNatClampNeg) = dnV T (T n).2.2.1.toNatClampNeg ∧ dnR T' P' (sh (T n).2.2.1.toNatClampNeg) = dnR T P (T n).2.2.1.toNatClampNeg := fun u => by
      obtain ⟨m, v, l, e⟩ := k2 u
      rw [e, nI_clamp (by omega)]
      exact ih m l v
    have c3 : us3 (T n).1 = true → dnV T' (sh (T n).2.2.2.1.toNatClampNeg) = dnV T (T n).2.2.2.1.toNatClampNeg := fun u => by
      obtain ⟨m, v, l, e⟩ := k3 u
      rw [e, nI_clamp (by omega)]
      exact (ih m l v).1
    have e5 : (T' (sh n)).2.2.2.2.1 = (T n).2.2.2.2.1 := by rw [r2]
    have e6 : (T' (sh n)).2.2.2.2.2 = (T n).2.2.2.2.2 := by rw [r2]
    refine ⟨?_, ?_⟩
    · rw [dnV_eq hT' (hsh n hn), dnV_eq hT hn, r1, e5, e6]
      exact oV_congr hk r4 (fun _ => ⟨rfl, rfl⟩) r5 (fun u => by rw [r6 u]; exact (c1 u).1) (fun u => by rw [r7 u]; exact (c2 u).1) (fun u => by rw [r8 u]; exact c3 u)
    · rw [dnR_eq hT' (hsh n hn), dnR_eq hT hn, r1, e5, e6, r3]
      exact oR_congr (fun _ => ⟨rfl, rfl⟩) (fun _ => rfl) (fun u => by rw [r6 u]; exact c1 u) (fun u => by rw [r7 u]; exact (c2 u).2)
