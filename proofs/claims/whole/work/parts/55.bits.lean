/-! how many bits -/
def pop (m : Nat) : Nat :=
  (fun a => (fun b => (fun c => (fun d => (d + d / 65536) &&& 0x3f) (c + c / 256)) ((b + b / 16) &&& 0x0f0f0f0f)) ((a &&& 0x33333333) + ((a / 4) &&& 0x33333333))) (m - ((m / 2) &&& 0x55555555))
def alB (f : Nat → Bool) : Nat → Bool
  | 0 => true
  | n + 1 => (f n).and (alB f n)
theorem alB_t {f : Nat → Bool} : ∀ {n : Nat}, alB f n = true → ∀ k, k < n → f k = true
  | 0, _, k, hk => absurd hk (by omega)
  | n + 1, h, k, hk => by
    have h2 : (f n && alB f n) = true := h
    rw [Bool.and_eq_true] at h2
    by_cases hkn : k = n
    · rw [hkn]; exact h2.1
    · exact alB_t h2.2 k (by omega)
theorem pop_all : alB (fun h => alB (fun l => Nat.beq (pop (Nat.add (Nat.mul 256 h) l)) (Nat.add (pop h) (pop l))) 256) 256 = true := by decide +kernel
theorem pop_256 : ∀ l, l < 256 → pop l = cnt (fun k => l.testBit k) 0 8 := by decide +kernel
theorem pop_hl {h l : Nat} (hh : h < 256) (hl : l < 256) : pop (256 * h + l) = pop h + pop l :=
  Nat.eq_of_beq_eq_true (alB_t (alB_t pop_all h hh) l hl)
theorem pop_cnt {m : Nat} (hm : m < 65536) : pop m = cnt (fun k => m.testBit k) 0 16 := by
  have h1 := pop_hl (h := m / 256) (l := m % 256) (by omega) (by omega)
  rw [show 256 * (m / 256) + m % 256 = m by omega, pop_256 (m / 256) (by omega), pop_256 (m % 256) (by omega)] at h1
  rw [h1, show 16 = 8 + 8 from rfl, cnt_app, Nat.add_comm]
  have em : ∀ k, m.testBit k = if k < 8 then (m % 256).testBit k else (m / 256).testBit (k - 8) := by
    intro k
    have := Nat.testBit_two_pow_mul_add (m / 256) (i := 8) (b := m % 256) (by omega) k
    rw [show 2 ^ 8 * (m / 256) + m % 256 = m by omega] at this
    exact this
  have sh : ∀ (d a : Nat), cnt (fun k => m.testBit k) (8 + a) d = cnt (fun k => (m / 256).testBit k) a d := by
    intro d
    induction d with
    | zero => intro a; rfl
    | succ d ih =>
      intro a
      show (if m.testBit (8 + a) = true then 1 else 0) + cnt (fun k => m.testBit k) (8 + a + 1) d = (if (m / 256).testBit a = true then 1 else 0) + cnt (fun k => (m / 256).testBit k) (a + 1) d
      rw [em (8 + a), if_neg (show ¬ 8 + a < 8 by omega), show 8 + a - 8 = a by omega, show 8 + a + 1 = 8 + (a + 1) by omega, ih (a + 1)]
  rw [sh 8 0]
  congr 1
  exact cnt_congr (fun i _ hi => by rw [em i, if_pos (by omega)])
theorem nI_and (a b : Nat) : nI a &&& nI b = nI (a &&& b) := by
  apply Int32.toBitVec_inj.mp
  simp [nI, BitVec.ofNat_and]
theorem bcc1 : (1431655765 : Int32) = nI 1431655765 := rfl
theorem bcc2 : (858993459 : Int32) = nI 858993459 := rfl
theorem bcc3 : (252645135 : Int32) = nI 252645135 := rfl
theorem us1 {n : Nat} (hn : n < 2 ^ 31) : ((nI n).toUInt32 >>> ((nI 1).toUInt32 &&& Int32.toUInt32 31)).toInt32 = nI (n / 2) := pk_ushrN (by omega) (nI 1) 1 rfl
theorem us2 {n : Nat} (hn : n < 2 ^ 31) : ((nI n).toUInt32 >>> ((nI 2).toUInt32 &&& Int32.toUInt32 31)).toInt32 = nI (n / 4) := pk_ushrN (by omega) (nI 2) 2 rfl
theorem us4 {n : Nat} (hn : n < 2 ^ 31) : ((nI n).toUInt32 >>> ((nI 4).toUInt32 &&& Int32.toUInt32 31)).toInt32 = nI (n / 16) := pk_ushrN (by omega) (nI 4) 4 rfl
theorem us8 {n : Nat} (hn : n < 2 ^ 31) : ((nI n).toUInt32 >>> ((nI 8).toUInt32 &&& Int32.toUInt32 31)).toInt32 = nI (n / 256) := pk_ushrN (by omega) (nI 8) 8 rfl
theorem us16 {n : Nat} (hn : n < 2 ^ 31) : ((nI n).toUInt32 >>> ((nI 16).toUInt32 &&& Int32.toUInt32 31)).toInt32 = nI (n / 65536) := pk_ushrN (by omega) (nI 16) 16 rfl
theorem p6_bitCount (m : Nat) (hm : m < 65536) (σ : xS) : FJ6_bitCount_0f7a4 [.int (nI m)] σ = some (some (.int (nI (cnt (fun k => m.testBit k) 0 16))), σ) := by
  rw [← pop_cnt hm]
  have h1 : m / 2 &&& 1431655765 ≤ m / 2 := Nat.and_le_left
  generalize ha : m - (m / 2 &&& 1431655765) = a
  have h2 : a &&& 858993459 ≤ a := Nat.and_le_left
  have h3 : a / 4 &&& 858993459 ≤ a / 4 := Nat.and_le_left
  generalize hb : (a &&& 858993459) + (a / 4 &&& 858993459) = b
  have h4 : b + b / 16 &&& 252645135 ≤ b + b / 16 := Nat.and_le_left
  generalize hc : b + b / 16 &&& 252645135 = c
  have e1 : nI m - nI (m / 2 &&& 1431655765) = nI a := by rw [pk_sub (by omega), ha]
  have hp : pop m = (c + c / 256 + (c + c / 256) / 65536) &&& 63 := by rw [← hc, ← hb, ← ha]; rfl
  rw [hp, fJ6_bitCount_0f7a4]
  simp (disch := omega) only [eJ6_bitCount_0f7a4, xRl, xG1, xG2, kAll, rAll, nAll, List.map_nil, List.map_cons, List.sum_nil, List.sum_cons, Nat.reduceAdd, Nat.reduceSub, Nat.reduceMul, Nat.reduceLeDiff, Nat.reduceEqDiff, Nat.reduceLT, and_true, true_and, and_self, if_true, if_false, ne_eq, not_false_eq_true, not_true_eq_false, or_false, false_or, or_true, true_or, false_and, and_false, reduceIte, reduceCtorEq, xB, ite_not, xretf_zc, xretf_c, xcont_c, xbd, us1, us2, us4, us8, us16, bcc1, bcc2, bcc3, nI_and, e1, nI_add, hb, hc]
