/-! SUMS OVER PAIRS -/
def s32 (f : Nat → Int32) : Nat → Nat → Int32
  | 0, _ => 0
  | m + 1, k => f k + s32 f m (k + 1)
theorem s32_end (f : Nat → Int32) : ∀ m k : Nat, s32 f (m + 1) k = s32 f m k + f (k + m)
  | 0, k => by
    show f k + 0 = 0 + f (k + 0)
    rw [Int32.add_zero, Int32.zero_add]; rfl
  | m + 1, k => by
    show f k + s32 f (m + 1) (k + 1) = f k + s32 f m (k + 1) + f (k + (m + 1))
    rw [s32_end f m (k + 1), Int32.add_assoc, show k + 1 + m = k + (m + 1) by omega]
theorem s32_congr {f g : Nat → Int32} (h : ∀ k, f k = g k) (m k : Nat) : s32 f m k = s32 g m k := by rw [funext h]
def sumU (c : Nat → Nat → Int32) : Nat → Nat → Int32
  | 0, _ => 0
  | m + 1, i => s32 (c i) m (i + 1) + sumU c m (i + 1)
def sumT (c : Nat → Nat → Int32) : Nat → Nat → Int32
  | 0, _ => 0
  | m + 1, j => s32 (c j) j 0 + sumT c m (j + 1)
theorem sumT_end (c : Nat → Nat → Int32) : ∀ m k : Nat, sumT c (m + 1) k = sumT c m k + s32 (c (k + m)) (k + m) 0
  | 0, k => by
    show s32 (c k) k 0 + 0 = 0 + s32 (c (k + 0)) (k + 0) 0
    rw [Int32.add_zero, Int32.zero_add]; rfl
  | m + 1, k => by
    show s32 (c k) k 0 + sumT c (m + 1) (k + 1) = s32 (c k) k 0 + sumT c m (k + 1) + s32 (c (k + (m + 1))) (k + (m + 1)) 0
    rw [sumT_end c m (k + 1), Int32.add_assoc, show k + 1 + m = k + (m + 1) by omega]
theorem sumU_end (c : Nat → Nat → Int32) : ∀ m i : Nat, sumU c (m + 1) i = sumU c m i + s32 (fun a => c a (i + m)) m i
  | 0, i => rfl
  | m + 1, i => by
    show s32 (c i) (m + 1) (i + 1) + sumU c (m + 1) (i + 1) = s32 (c i) m (i + 1) + sumU c m (i + 1) + (c i (i + (m + 1)) + s32 (fun a => c a (i + (m + 1))) m (i + 1))
    rw [sumU_end c m (i + 1), s32_end (c i) m (i + 1), show i + 1 + m = i + (m + 1) by omega]
    rw [Int32.add_assoc, Int32.add_assoc, ← Int32.add_assoc (c i (i + (m + 1))), Int32.add_comm (c i (i + (m + 1))), Int32.add_assoc]
theorem sumUT (c : Nat → Nat → Int32) (hs : ∀ a b, c a b = c b a) : ∀ m : Nat, sumU c m 0 = sumT c m 0
  | 0 => rfl
  | m + 1 => by
    rw [sumU_end, sumT_end, sumUT c hs m, Nat.zero_add, s32_congr (fun k => hs k m)]
