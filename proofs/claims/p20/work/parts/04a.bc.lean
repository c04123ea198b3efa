/-! how the JDK counts bits, in numbers -/
def bcN (n : Nat) : Nat :=
  let a := n - (n / 2 &&& 1431655765)
  let b := (a &&& 858993459) + (a / 4 &&& 858993459)
  let c := (b + b / 16) &&& 252645135
  let d := c + c / 256
  let g := d + d / 65536
  g &&& 63
theorem bcN_ct : ∀ a, a < 128 → ∀ b, b < 128 → bcN (128 * a + b) = ct (fun i => Nat.testBit (128 * a + b) i) 14 := by decide +kernel
theorem nI_and (a b : Nat) : nI a &&& nI b = nI (a &&& b) := by
  apply Int32.toBitVec_inj.1
  show BitVec.ofNat 32 a &&& BitVec.ofNat 32 b = BitVec.ofNat 32 (a &&& b)
  apply BitVec.eq_of_getLsbD_eq
  intro i hi
  simp [hi]
theorem bt_nI {n i : Nat} (hi : i < 32) : bt (nI n) i = Nat.testBit n i := by
  show (BitVec.ofNat 32 n).getLsbD i = _
  rw [BitVec.getLsbD_ofNat]
  simp [hi]
theorem ush_nI {n k p : Nat} (hn : n < 2 ^ 32) (hk : k < 32) (hp : 2 ^ k = p) : ((nI n).toUInt32 >>> ((nI k).toUInt32 &&& Int32.toUInt32 31)).toInt32 = nI (n / p) := by
  subst hp
  refine pk_ushrN hn (nI k) k ?_
  exact (by decide +kernel : ∀ k, k < 32 → (((nI k).toUInt32 &&& Int32.toUInt32 31).toBitVec % 32).toNat = k) k hk
theorem small_nI {x : Int32} (h : small x) : ∃ n, n < 16384 ∧ x = nI n := by
  refine ⟨x.toBitVec.toNat, ?_, ?_⟩
  · have h1 : x.toBitVec.toNat < 2 ^ 14 := by
      refine Nat.lt_pow_two_of_testBit _ (fun i hi => ?_)
      have := h i hi
      unfold bt at this
      rw [← BitVec.testBit_toNat] at this
      exact this
    omega
  · apply Int32.toBitVec_inj.1
    show x.toBitVec = BitVec.ofNat 32 x.toBitVec.toNat
    simp
theorem bc_nI {n : Nat} (hn : n < 16384) : bcI (nI n) = nI (bcN n) := by
  have l1 : (n / 2 &&& 1431655765) ≤ n / 2 := Nat.and_le_left
  obtain ⟨a, ha⟩ : ∃ a, a = n - (n / 2 &&& 1431655765) := ⟨_, rfl⟩
  have l2 : (a &&& 858993459) ≤ a := Nat.and_le_left
  have l3 : (a / 4 &&& 858993459) ≤ a / 4 := Nat.and_le_left
  obtain ⟨b, hb⟩ : ∃ b, b = (a &&& 858993459) + (a / 4 &&& 858993459) := ⟨_, rfl⟩
  have l4 : ((b + b / 16) &&& 252645135) ≤ b + b / 16 := Nat.and_le_left
  obtain ⟨c, hc⟩ : ∃ c, c = (b + b / 16) &&& 252645135 := ⟨_, rfl⟩
  obtain ⟨d, hd⟩ : ∃ d, d = c + c / 256 := ⟨_, rfl⟩
  have e1 : nI n - (((nI n).toUInt32 >>> ((nI 1).toUInt32 &&& Int32.toUInt32 31)).toInt32 &&& nI 1431655765) = nI a := by
    rw [ush_nI (p := 2) (by omega) (by omega) rfl, nI_and, pk_sub (by omega), ← ha]
  have e2 : (nI a &&& nI 858993459) + (((nI a).toUInt32 >>> ((nI 2).toUInt32 &&& Int32.toUInt32 31)).toInt32 &&& nI 858993459) = nI b := by
    rw [ush_nI (p := 4) (by omega) (by omega) rfl, nI_and, nI_and, nI_add, ← hb]
  have e3 : (nI b + ((nI b).toUInt32 >>> ((nI 4).toUInt32 &&& Int32.toUInt32 31)).toInt32) &&& nI 252645135 = nI c := by
    rw [ush_nI (p := 16) (by omega) (by omega) rfl, nI_add, nI_and, ← hc]
  have e4 : nI c + ((nI c).toUInt32 >>> ((nI 8).toUInt32 &&& Int32.toUInt32 31)).toInt32 = nI d := by
    rw [ush_nI (p := 256) (by omega) (by omega) rfl, nI_add, ← hd]
  have e5 : nI d + ((nI d).toUInt32 >>> ((nI 16).toUInt32 &&& Int32.toUInt32 31)).toInt32 = nI (d + d / 65536) := by
    rw [ush_nI (p := 65536) (by omega) (by omega) rfl, nI_add]
  have t0 : bcI (nI n) = (let a := nI n - (((nI n).toUInt32 >>> ((nI 1).toUInt32 &&& Int32.toUInt32 31)).toInt32 &&& nI 1431655765)
    let b := (a &&& nI 858993459) + ((a.toUInt32 >>> ((nI 2).toUInt32 &&& Int32.toUInt32 31)).toInt32 &&& nI 858993459)
    let c := (b + (b.toUInt32 >>> ((nI 4).toUInt32 &&& Int32.toUInt32 31)).toInt32) &&& nI 252645135
    let d := c + (c.toUInt32 >>> ((nI 8).toUInt32 &&& Int32.toUInt32 31)).toInt32
    let g := d + (d.toUInt32 >>> ((nI 16).toUInt32 &&& Int32.toUInt32 31)).toInt32
    g &&& nI 63) := rfl
  rw [t0]
  dsimp only
  rw [e1, e2, e3, e4, e5, nI_and]
  unfold bcN
  dsimp only
  rw [← ha, ← hb, ← hc, ← hd]
theorem ct_cong0 {p q : Nat → Bool} : ∀ {n : Nat}, (∀ k, k < n → p k = q k) → ct p n = ct q n
  | 0, _ => rfl
  | n + 1, h => by simp only [ct]; rw [ct_cong0 (fun k hk => h k (by omega)), h n (by omega)]
theorem bc_small {x : Int32} (h : small x) : bcI x = nI (ct (bt x) 14) := by
  obtain ⟨n, hn, rfl⟩ := small_nI h
  rw [bc_nI hn, ct_cong0 (q := fun i => Nat.testBit n i) (fun k hk => bt_nI (by omega))]
  have := bcN_ct (n / 128) (by omega) (n % 128) (by omega)
  rw [Nat.div_add_mod] at this
  rw [this]
